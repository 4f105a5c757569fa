import java.util.Arrays;

/**
 * Rows of counts, or cards: one begins at one of the first places, goes on by as many places as the
 * count there, and so to the end. The document's numbered promises say what each call answers.
 *
 * All rows are made once, in the constructors, so that no call makes an object.
 */
public final class WhereverBegun {
    public static final int NONE = -6, UNKNOWN = -1, OUTSIDE = -2, STATE = -3, FULL = -4, NO = -5;
    public static final long LOST = -1000000000000000000L;

    private static final int MOST_SIGNS = 48;
    private static final int MOST_PLACES = 40;
    private static final int MOST_FREE = 4;
    private static final int MOST_DRAWN = 5;
    private static final int MOST_BEGINNINGS = 10;
    private static final int MOST_COUNT = 10;
    private static final int MOST_WEIGHT = 9;
    private static final int MOST_WEIGHTS = 12;
    private static final int MOST_SIGHTS = 6;
    private static final int MOST_SEED = 9999;
    private static final int TRIED_SEEDS = 100;
    private static final int IMAGES = 2;
    private static final int COUNT_BITS = 2046;
    private static final char FREE_SIGN = '*';
    private static final char DRAWN_SIGN = '?';
    private static final int WISH_ALL_AT_ONE = 0;
    private static final int WISH_NONE_MEET = 1;
    private static final int WISH_TWO_STREAMS = 2;
    private static final int WISH_ALL_PASS = 3;

    private final char[] pad;
    private int signs;
    private final Table table;
    private final Table[] images;
    private final char[] pack;
    private final Row row;
    private final Chances chances;
    private final Writing writing;
    private final Guess guess;

    public WhereverBegun() {
        pad = new char[MOST_SIGNS];
        signs = 0;
        table = new Table();
        images = new Table[] {new Table(), new Table()};
        pack = new char[MOST_PLACES];
        row = new Row();
        chances = new Chances();
        writing = new Writing();
        guess = new Guess();
    }

    // ---- 1 pages

    public int say(int sign) {
        if (sign < 33 || sign > 126) {
            return OUTSIDE;
        }
        if (signs >= MOST_SIGNS) {
            return FULL;
        }
        pad[signs] = (char) sign;
        signs++;
        return signs;
    }

    public int wipe() {
        int were = signs;
        signs = 0;
        return were;
    }

    public int fault() {
        return firstFault();
    }

    public int page() {
        if (firstFault() != NONE) {
            return NO;
        }
        table.take(pad, signs);
        signs = 0;
        return table.places;
    }

    public int begin(int n) {
        if (n < 1 || n > MOST_BEGINNINGS || n > table.places) {
            return OUTSIDE;
        }
        int was = table.beginnings;
        table.beginnings = n;
        return was;
    }

    public int court(int count) {
        if (!isCount(count)) {
            return OUTSIDE;
        }
        int was = table.courtCount;
        table.courtCount = count;
        return was;
    }

    public int allow(int counts) {
        if (counts == 0 || (counts & ~COUNT_BITS) != 0) {
            return OUTSIDE;
        }
        int was = table.allowed;
        table.allowed = counts;
        return was;
    }

    public int weight(int count, int v) {
        if (!isCount(count)) {
            return UNKNOWN;
        }
        if (v < 0 || v > MOST_WEIGHT) {
            return OUTSIDE;
        }
        int was = table.weights[count];
        int together = table.weightOfAll() - was + v;
        if (together < 1 || together > MOST_WEIGHTS) {
            return OUTSIDE;
        }
        table.weights[count] = v;
        return was;
    }

    public int place(int place, int what) {
        if (!table.has(place)) {
            return UNKNOWN;
        }
        if (what < 0 || what > 1) {
            return OUTSIDE;
        }
        char sign = table.text[place];
        if (what == 0) {
            return sign;
        }
        int count = countOf(sign, table.courtCount);
        return count == 0 ? NONE : count;
    }

    // ---- 2 streams

    public int out(int place) {
        if (!table.has(place)) {
            return UNKNOWN;
        }
        if (!table.isWhole()) {
            return STATE;
        }
        row.follow(table.text, table, table.courtCount);
        return row.ends[place];
    }

    public int streams() {
        if (!table.isWhole()) {
            return STATE;
        }
        row.follow(table.text, table, table.courtCount);
        return row.manyEnds();
    }

    public int meet(int a, int b) {
        if (!table.has(a) || !table.has(b)) {
            return UNKNOWN;
        }
        if (!table.isWhole()) {
            return STATE;
        }
        row.read(table.text, table, table.courtCount);
        long both = row.streamOf(a) & row.streamOf(b);
        return both == 0 ? NONE : leastBit(both);
    }

    public int pass(int i) {
        if (!table.isWhole()) {
            return STATE;
        }
        row.read(table.text, table, table.courtCount);
        long passed = row.passedByAll();
        return i == -1 ? Long.bitCount(passed) : bitAt(passed, i);
    }

    public int tree(int place, int what) {
        if (!table.has(place)) {
            return UNKNOWN;
        }
        if (what < 0 || what > 2) {
            return OUTSIDE;
        }
        if (!table.isWhole()) {
            return STATE;
        }
        row.follow(table.text, table, table.courtCount);
        if (what == 0) {
            return row.comers[place];
        }
        return what == 1 ? row.leaders[place] : row.chains[place];
    }

    public int nowhere() {
        if (!table.isWhole()) {
            return STATE;
        }
        row.follow(table.text, table, table.courtCount);
        int many = 0;
        for (int p = 0; p < row.places; p++) {
            if (row.leaders[p] == 0) {
                many++;
            }
        }
        return many;
    }

    public int minds(int place, int count) {
        if (!table.has(place) || !isCount(count)) {
            return UNKNOWN;
        }
        if (!table.isWhole()) {
            return STATE;
        }
        row.follow(table.text, table, table.courtCount);
        return row.mindsBy(place, count);
    }

    public int one(int what) {
        if (what < 0 || what > 2) {
            return OUTSIDE;
        }
        if (!table.isWhole()) {
            return STATE;
        }
        row.follow(table.text, table, table.courtCount);
        int most = 0;
        int bestPlace = NONE;
        int bestCount = NONE;
        for (int p = 0; p < row.places; p++) {
            for (int c = 1; c <= MOST_COUNT; c++) {
                int changed = row.mindsBy(p, c);
                if (changed > most) {
                    most = changed;
                    bestPlace = p;
                    bestCount = c;
                }
            }
        }
        if (what == 0) {
            return bestPlace;
        }
        return what == 1 ? bestCount : most;
    }

    public int best(int what) {
        if (what < 0 || what > 1) {
            return OUTSIDE;
        }
        if (!table.isWhole()) {
            return STATE;
        }
        int most = 0;
        int bestCount = 1;
        for (int c = 1; c <= MOST_COUNT; c++) {
            row.follow(table.text, table, c);
            int together = row.mostAtOneEnd();
            if (together > most) {
                most = together;
                bestCount = c;
            }
        }
        return what == 0 ? bestCount : most;
    }

    // ---- 3 chances

    public long likely(int a, int b, int part) {
        if (!table.has(a) || !table.has(b)) {
            return LOST + UNKNOWN;
        }
        if (!isPart(part)) {
            return LOST + OUTSIDE;
        }
        if (table.howMany(FREE_SIGN) > 0) {
            return LOST + STATE;
        }
        return chanceOfOneStream((1L << a) | (1L << b), part);
    }

    public long all(int part) {
        if (!isPart(part)) {
            return LOST + OUTSIDE;
        }
        if (table.howMany(FREE_SIGN) > 0) {
            return LOST + STATE;
        }
        return chanceOfOneStream((1L << table.beginnings) - 1, part);
    }

    // ---- 4 writing, sights

    public int write(int wish, int place, int i) {
        if (wish == WISH_ALL_PASS && !table.has(place)) {
            return UNKNOWN;
        }
        if (wish < WISH_ALL_AT_ONE || wish > WISH_ALL_PASS) {
            return OUTSIDE;
        }
        if (table.howMany(DRAWN_SIGN) > 0) {
            return STATE;
        }
        row.read(table.text, table, table.courtCount);
        writing.seek(row, table.allowed, wish, place, false);
        return i == -1 ? writing.ways : writtenAt(i);
    }

    public int soonest(int i) {
        if (table.howMany(DRAWN_SIGN) > 0) {
            return STATE;
        }
        row.read(table.text, table, table.courtCount);
        writing.seek(row, table.allowed, WISH_ALL_AT_ONE, 0, true);
        if (i == -1) {
            return writing.ways == 0 ? NONE : writing.leastRank;
        }
        return writtenAt(i);
    }

    public int seen(int from, int out) {
        if (!table.has(from) || !table.has(out)) {
            return UNKNOWN;
        }
        if (table.sights >= MOST_SIGHTS) {
            return FULL;
        }
        table.sightFrom[table.sights] = from;
        table.sightOut[table.sights] = out;
        table.sights++;
        return table.sights;
    }

    public int forget() {
        int were = table.sights;
        table.sights = 0;
        return were;
    }

    public int fits() {
        if (table.howMany(FREE_SIGN) > 0) {
            return STATE;
        }
        row.read(table.text, table, table.courtCount);
        guess.seek(row, table, -1, 0);
        return guess.ways;
    }

    public long drawn(int k, int count, int part) {
        if (k < 0 || k >= table.howMany(DRAWN_SIGN) || !isCount(count)) {
            return LOST + UNKNOWN;
        }
        if (!isPart(part)) {
            return LOST + OUTSIDE;
        }
        if (table.howMany(FREE_SIGN) > 0) {
            return LOST + STATE;
        }
        row.read(table.text, table, table.courtCount);
        guess.seek(row, table, k, count);
        if (guess.ways == 0) {
            return LOST + STATE;
        }
        return lowestTerms(guess.weighedAsked, guess.weighed, part);
    }

    // ---- 5 packs

    public int shuffle(int seed) {
        if (seed < 0 || seed > MOST_SEED) {
            return OUTSIDE;
        }
        mix(table.text, table.places, seed);
        return table.places;
    }

    public int wrong(int a, int b) {
        if (!table.has(a) || !table.has(b)) {
            return UNKNOWN;
        }
        if (!table.isWhole()) {
            return STATE;
        }
        int apart = 0;
        for (int seed = 0; seed < TRIED_SEEDS; seed++) {
            System.arraycopy(table.text, 0, pack, 0, MOST_PLACES);
            mix(pack, table.places, seed);
            row.follow(pack, table, table.courtCount);
            if (row.ends[a] != row.ends[b]) {
                apart++;
            }
        }
        return apart;
    }

    public int image(int n) {
        if (n < 0 || n >= IMAGES) {
            return OUTSIDE;
        }
        images[n].copy(table);
        images[n].kept = true;
        return 1;
    }

    public int restore(int n) {
        if (n < 0 || n >= IMAGES) {
            return OUTSIDE;
        }
        if (!images[n].kept) {
            return STATE;
        }
        table.copy(images[n]);
        return 1;
    }

    public int told(int what) {
        if (what > 10 && what <= 10 + MOST_COUNT) {
            return table.weights[what - 10];
        }
        switch (what) {
            case 0:
                return signs;
            case 1:
                return table.places;
            case 2:
                return table.beginnings;
            case 3:
                return table.courtCount;
            case 4:
                return table.allowed;
            case 5:
                return table.howMany(FREE_SIGN);
            case 6:
                return table.howMany(DRAWN_SIGN);
            case 7:
                return table.sights;
            default:
                return OUTSIDE;
        }
    }

    // ---- what the calls share

    private int firstFault() {
        int free = 0;
        int drawnOnes = 0;
        for (int p = 0; p < signs; p++) {
            char sign = pad[p];
            if (sign == FREE_SIGN) {
                free++;
            } else if (sign == DRAWN_SIGN) {
                drawnOnes++;
            } else if (countOf(sign, 1) == 0) {
                return p;
            }
            if (p >= MOST_PLACES || free > MOST_FREE || drawnOnes > MOST_DRAWN) {
                return p;
            }
        }
        return signs == 0 ? 0 : NONE;
    }

    private long chanceOfOneStream(long start, int part) {
        row.read(table.text, table, table.courtCount);
        chances.reckon(row, table.weights, table.weightOfAll(), start);
        return lowestTerms(chances.won, chances.together, part);
    }

    private int writtenAt(int i) {
        if (i < 0 || i >= table.howMany(FREE_SIGN) || i >= MOST_FREE || writing.ways == 0) {
            return NONE;
        }
        return writing.kept[i];
    }

    private static boolean isCount(int count) {
        return count >= 1 && count <= MOST_COUNT;
    }

    private static boolean isPart(int part) {
        return part == 0 || part == 1;
    }

    /** 0 for a free place, a drawn one, and what is no sign of a page. */
    private static int countOf(char sign, int courtCount) {
        if (sign >= '1' && sign <= '9') {
            return sign - '0';
        }
        if (sign == 'A') {
            return 1;
        }
        if (sign == 'T') {
            return 10;
        }
        return sign == 'J' || sign == 'Q' || sign == 'K' ? courtCount : 0;
    }

    private static int leastBit(long bits) {
        return Long.bitCount((bits & -bits) - 1);
    }

    private static int bitAt(long bits, int i) {
        int before = 0;
        for (int p = 0; p < MOST_PLACES; p++) {
            if (((bits >>> p) & 1) == 0) {
                continue;
            }
            if (before == i) {
                return p;
            }
            before++;
        }
        return NONE;
    }

    private static long lowestTerms(long upper, long lower, int part) {
        long a = lower;
        long b = upper;
        for (int step = 0; step < 100 && b != 0; step++) {
            long left = a % b;
            a = b;
            b = left;
        }
        long asked = part == 0 ? upper : lower;
        return a == 0 ? asked : asked / a;
    }

    private static void mix(char[] text, int places, int seed) {
        int s = seed;
        for (int i = places - 1; i >= 1; i--) {
            s = (s * 75 + 74) % 65537;
            int j = s % (i + 1);
            char moved = text[i];
            text[i] = text[j];
            text[j] = moved;
        }
    }

    /** All but the pad: what an image keeps. */
    private static final class Table {
        final char[] text = new char[MOST_PLACES];
        final int[] weights = new int[MOST_COUNT + 1];
        final int[] sightFrom = new int[MOST_SIGHTS];
        final int[] sightOut = new int[MOST_SIGHTS];
        int places;
        int beginnings;
        int courtCount;
        int allowed;
        int sights;
        boolean kept;

        Table() {
            text[0] = '1';
            places = 1;
            beginnings = 1;
            courtCount = 5;
            allowed = 1022;
            weights[1] = 1;
            weights[2] = 1;
            weights[3] = 1;
            sights = 0;
            kept = false;
        }

        /** Takes a text that has no fault. */
        void take(char[] signs, int many) {
            places = Math.min(many, MOST_PLACES);
            System.arraycopy(signs, 0, text, 0, places);
            beginnings = 1;
            sights = 0;
        }

        void copy(Table other) {
            System.arraycopy(other.text, 0, text, 0, MOST_PLACES);
            System.arraycopy(other.weights, 0, weights, 0, MOST_COUNT + 1);
            System.arraycopy(other.sightFrom, 0, sightFrom, 0, MOST_SIGHTS);
            System.arraycopy(other.sightOut, 0, sightOut, 0, MOST_SIGHTS);
            places = other.places;
            beginnings = other.beginnings;
            courtCount = other.courtCount;
            allowed = other.allowed;
            sights = other.sights;
        }

        boolean has(int p) {
            return p >= 0 && p < places;
        }

        int howMany(char sign) {
            int many = 0;
            for (int p = 0; p < places; p++) {
                if (text[p] == sign) {
                    many++;
                }
            }
            return many;
        }

        boolean isWhole() {
            return howMany(FREE_SIGN) == 0 && howMany(DRAWN_SIGN) == 0;
        }

        int weightOfAll() {
            int sum = 0;
            for (int c = 1; c <= MOST_COUNT; c++) {
                sum += weights[c];
            }
            return sum;
        }
    }

    /** The counts of a page, and, when it is whole, where one goes on it. */
    private static final class Row {
        final int[] counts = new int[MOST_PLACES];
        final int[] ends = new int[MOST_PLACES];
        final int[] comers = new int[MOST_PLACES];
        final int[] leaders = new int[MOST_PLACES];
        final int[] chains = new int[MOST_PLACES];
        int places;
        int beginnings;

        /** Free and drawn places get the count 0. */
        void read(char[] text, Table table, int courtCount) {
            places = table.places;
            beginnings = table.beginnings;
            for (int p = 0; p < places; p++) {
                counts[p] = countOf(text[p], courtCount);
            }
        }

        /** For a whole page alone: a count of 0 would lead to its own place. */
        void follow(char[] text, Table table, int courtCount) {
            read(text, table, courtCount);
            for (int p = places - 1; p >= 0; p--) {
                ends[p] = endBy(p, counts[p]);
                comers[p] = p < beginnings ? 1 : 0;
                leaders[p] = 0;
                chains[p] = 0;
            }
            for (int p = 0; p < places; p++) {
                int next = p + counts[p];
                if (next < places) {
                    comers[next] += comers[p];
                    leaders[next]++;
                    chains[next] = Math.max(chains[next], chains[p] + 1);
                }
            }
        }

        private int endBy(int p, int count) {
            int next = p + count;
            return next < places ? ends[next] : p;
        }

        long streamOf(int start) {
            long stream = 1L << start;
            for (int p = start; p < places; p++) {
                int next = p + counts[p];
                if (((stream >>> p) & 1) != 0 && next < places) {
                    stream |= 1L << next;
                }
            }
            return stream;
        }

        long passedByAll() {
            long passed = -1L;
            for (int b = 0; b < beginnings; b++) {
                passed &= streamOf(b);
            }
            return passed;
        }

        int manyEnds() {
            long found = 0;
            for (int b = 0; b < beginnings; b++) {
                found |= 1L << ends[b];
            }
            return Long.bitCount(found);
        }

        int mostAtOneEnd() {
            int most = 0;
            for (int p = 0; p < places; p++) {
                if (ends[p] == p) {
                    most = Math.max(most, comers[p]);
                }
            }
            return most;
        }

        /** The places behind p stay as they are, so all that come to p come out with it. */
        int mindsBy(int p, int count) {
            return endBy(p, count) == ends[p] ? 0 : comers[p];
        }
    }

    /**
     * How likely all that begin at some places come out at one. Two meet just when they come out
     * at one place, so this tells of two places, too.
     *
     * It goes over the places once and keeps, for each set of the next ten places that streams may
     * stand on, by how much weight it is so: streams that have met are one from there on, and none
     * stands further off than the greatest count, but those that have not begun yet.
     */
    private static final class Chances {
        private static final int SETS = 1 << MOST_COUNT;

        private long[] now = new long[SETS];
        private long[] next = new long[SETS];
        long won;
        long together;

        void reckon(Row row, int[] weights, int weightOfAll, long start) {
            won = 0;
            together = 1;
            Arrays.fill(now, 0);
            now[(int) (start & (SETS - 1))] = 1;
            for (int p = 0; p < row.places; p++) {
                int factor = row.counts[p] == 0 ? weightOfAll : 1;
                won *= factor;
                together *= factor;
                Arrays.fill(next, 0);
                goOnFrom(p, row, weights, factor, start);
                long[] spare = now;
                now = next;
                next = spare;
            }
        }

        private void goOnFrom(int p, Row row, int[] weights, int factor, long start) {
            boolean allBegun = start >>> (p + 1) == 0;
            int begun = ((start >>> (p + MOST_COUNT)) & 1) == 0 ? 0 : SETS >> 1;
            for (int set = 0; set < SETS; set++) {
                long ways = now[set];
                if (ways == 0) {
                    continue;
                }
                int rest = (set >> 1) | begun;
                if (set == 1 && allBegun) {
                    won += ways * factor;
                } else if ((set & 1) == 0) {
                    next[rest] += ways * factor;
                } else if (row.counts[p] > 0) {
                    land(p, row.counts[p], row.places, rest, ways);
                } else {
                    landByWeights(p, row.places, weights, rest, ways);
                }
            }
        }

        private void landByWeights(int p, int places, int[] weights, int rest, long ways) {
            for (int c = 1; c <= MOST_COUNT; c++) {
                land(p, c, places, rest, ways * weights[c]);
            }
        }

        /** One that comes out while others are still on their way never meets them: it is dropped. */
        private void land(int p, int count, int places, int rest, long ways) {
            if (p + count < places) {
                next[rest | (1 << (count - 1))] += ways;
            }
        }
    }

    /** Free places written so that a wish holds. */
    private static final class Writing {
        final int[] kept = new int[MOST_FREE];
        private final int[] tried = new int[MOST_FREE];
        private final int[] counts = new int[MOST_PLACES];
        private int places;
        private int beginnings;
        private int allowed;
        private int leastAllowed;
        private int manyAllowed;
        private int wish;
        private int wishPlace;
        private boolean soonestFirst;
        int ways;
        int leastRank;

        void seek(Row row, int allowedBits, int wished, int place, boolean bySoonest) {
            System.arraycopy(row.counts, 0, counts, 0, MOST_PLACES);
            places = row.places;
            beginnings = row.beginnings;
            allowed = allowedBits;
            leastAllowed = leastBit(allowedBits);
            manyAllowed = Integer.bitCount(allowedBits);
            wish = wished;
            wishPlace = place;
            soonestFirst = bySoonest;
            ways = 0;
            leastRank = MOST_PLACES;
            goOn(0, 0, (1L << beginnings) - 1, 0, 0, 1);
        }

        /**
         * Goes over the places from p on. A free place that none comes to changes nothing: its least
         * count stands for all, and scale tells for how many ways.
         */
        private void goOn(int from, int firstFree, long reached, long ends, long passed, int scale) {
            int k = firstFree;
            int many = scale;
            long stood = reached;
            long out = ends;
            long met = passed;
            for (int p = from; p < places; p++) {
                boolean free = counts[p] == 0 && k < MOST_FREE;
                if (((stood >>> p) & 1) == 0) {
                    if (free) {
                        tried[k] = leastAllowed;
                        k++;
                        many *= manyAllowed;
                    }
                    continue;
                }
                if (out == 0 && stood >>> p == 1) {
                    met |= 1L << p;
                }
                if (free) {
                    tryCounts(p, k, stood, out, met, many);
                    return;
                }
                if (p + counts[p] < places) {
                    stood |= 1L << (p + counts[p]);
                } else {
                    out |= 1L << p;
                }
            }
            weigh(out, met, many);
        }

        private void tryCounts(int p, int k, long reached, long ends, long passed, int scale) {
            for (int c = 1; c <= MOST_COUNT; c++) {
                if (((allowed >> c) & 1) == 0) {
                    continue;
                }
                tried[k] = c;
                if (p + c < places) {
                    goOn(p + 1, k + 1, reached | (1L << (p + c)), ends, passed, scale);
                } else {
                    goOn(p + 1, k + 1, reached, ends | (1L << p), passed, scale);
                }
            }
        }

        /** Ways come in their order, so a later one is kept only if its rank is truly less. */
        private void weigh(long ends, long passed, int scale) {
            if (!holds(Long.bitCount(ends), passed)) {
                return;
            }
            ways += scale;
            int rank = soonestFirst ? leastBit(passed) : 0;
            if (rank < leastRank) {
                leastRank = rank;
                System.arraycopy(tried, 0, kept, 0, MOST_FREE);
            }
        }

        private boolean holds(int manyEnds, long passed) {
            switch (wish) {
                case WISH_ALL_AT_ONE:
                    return manyEnds == 1;
                case WISH_NONE_MEET:
                    return manyEnds == beginnings;
                case WISH_TWO_STREAMS:
                    return manyEnds == 2;
                default:
                    return ((passed >>> wishPlace) & 1) != 0;
            }
        }
    }

    /**
     * What the drawn places can have been, by the sights. A sight needs that the first drawn place
     * it comes to comes out where it did; that place hands the need on to the drawn place it leads
     * to. So counts that lead to the same drawn place, or rightly out, are told together.
     */
    private static final class Guess {
        private static final int NO_NEED = -1;

        private final int[] roots = new int[MOST_PLACES];
        private final int[] spots = new int[MOST_DRAWN];
        private final int[] needs = new int[MOST_DRAWN];
        private final int[] weights = new int[MOST_COUNT + 1];
        private int many;
        private int places;
        private int weightOfAll;
        private int manyWeighed;
        private int askedSpot;
        private int askedCount;
        int ways;
        long weighed;
        long weighedAsked;

        void seek(Row row, Table table, int spot, int count) {
            places = row.places;
            System.arraycopy(table.weights, 0, weights, 0, MOST_COUNT + 1);
            weightOfAll = table.weightOfAll();
            manyWeighed = 0;
            for (int c = 1; c <= MOST_COUNT; c++) {
                manyWeighed += weights[c] > 0 ? 1 : 0;
            }
            askedSpot = spot;
            askedCount = count;
            ways = 0;
            weighed = 0;
            weighedAsked = 0;
            findSpots(row);
            findRoots(row);
            if (takeNeeds(table)) {
                goOn(0, 1, 1, 1);
            }
        }

        private void findSpots(Row row) {
            many = 0;
            for (int p = 0; p < places; p++) {
                if (row.counts[p] == 0 && many < MOST_DRAWN) {
                    spots[many] = p;
                    needs[many] = NO_NEED;
                    many++;
                }
            }
        }

        /** A root is a place where one comes out, or the number of a drawn place behind all places. */
        private void findRoots(Row row) {
            int k = many;
            for (int p = places - 1; p >= 0; p--) {
                if (row.counts[p] == 0) {
                    k--;
                    roots[p] = MOST_PLACES + k;
                } else {
                    roots[p] = rootBy(p, row.counts[p]);
                }
            }
        }

        private int rootBy(int p, int count) {
            int next = p + count;
            return next < places ? roots[next] : p;
        }

        /** False if the sights can not hold together whatever is drawn. */
        private boolean takeNeeds(Table table) {
            for (int s = 0; s < table.sights; s++) {
                int root = roots[table.sightFrom[s]];
                int out = table.sightOut[s];
                int k = root - MOST_PLACES;
                if (k < 0 || k >= MOST_DRAWN) {
                    if (root != out) {
                        return false;
                    }
                } else if (needs[k] == NO_NEED) {
                    needs[k] = out;
                } else if (needs[k] != out) {
                    return false;
                }
            }
            return true;
        }

        private void goOn(int k, int found, long weight, long asked) {
            if (k >= many) {
                ways += found;
                weighed += weight;
                weighedAsked += asked;
                return;
            }
            if (needs[k] == NO_NEED) {
                int part = k == askedSpot ? weights[askedCount] : weightOfAll;
                goOn(k + 1, found * manyWeighed, weight * weightOfAll, asked * part);
                return;
            }
            for (int goal = k + 1; goal <= many; goal++) {
                leadTo(goal, k, found, weight, asked);
            }
        }

        /** The goal is the number of a drawn place; behind the last one: rightly out. */
        private void leadTo(int goal, int k, int found, long weight, long asked) {
            boolean toSpot = goal < many;
            if (toSpot && needs[goal] != NO_NEED && needs[goal] != needs[k]) {
                return;
            }
            int goalRoot = toSpot ? MOST_PLACES + goal : needs[k];
            int counted = 0;
            int together = 0;
            int askedTogether = 0;
            for (int c = 1; c <= MOST_COUNT; c++) {
                if (weights[c] > 0 && rootBy(spots[k], c) == goalRoot) {
                    counted++;
                    together += weights[c];
                    askedTogether += (k != askedSpot || c == askedCount) ? weights[c] : 0;
                }
            }
            if (counted == 0) {
                return;
            }
            int before = toSpot ? needs[goal] : NO_NEED;
            if (toSpot) {
                needs[goal] = needs[k];
            }
            goOn(k + 1, found * counted, weight * together, asked * askedTogether);
            if (toSpot) {
                needs[goal] = before;
            }
        }
    }
}
