/** Cuts letters that stand without blanks into the words of a dictionary, the least way first. */
public final class CutLetters {
    public static final int NONE = -6, UNKNOWN = -1, OUTSIDE = -2, STATE = -3, FULL = -4, NO = -5;

    private static final int MOST_SIGNS = 40;
    private static final int LEAST_SIGN = 33;
    private static final int LAST_SIGN = 126;

    private static final int MOST_WORDS = 16;
    private static final int LONGEST = 6;
    private static final int MOST_LETTERS = 24;
    private static final int MOST_COST = 99;

    private static final int WILD = 3;
    private static final int KINDS = 4;
    /** Stands for the line's edge where a kind is asked: behind it the first piece, before it the last. */
    private static final int EDGE = 4;
    private static final int JOIN_SIDES = 5;
    private static final String NAMES = "nounverbmark";
    private static final int NAME_LENGTH = 4;

    private static final int WHEN = 0;
    private static final int BASE = 1;
    private static final int EACH = 2;
    private static final int SHORT = 3;
    private static final int RULES = 4;
    private static final int WHEN_NO_WORD = 0;
    private static final int WHEN_NEVER = 2;
    private static final int[] RULE_LIMITS = {2, 99, 99, 3};

    /** Sixteen words and four wild ones at each of twenty-four places are 480. */
    private static final int MOST_PIECES = 480;
    private static final int MOST_CUTTINGS = 12;
    private static final int WAYS_DIVISOR = 1000003;
    private static final int MOST_ABOVE = 999;
    /** Twenty-four letters, each with a ? behind it, and the bars between them. */
    private static final int MOST_WRITTEN = 71;
    private static final int IMAGES = 2;

    private static final int TOLD_RULES = 3;
    private static final int TOLD_JOINS = 10;
    private static final int TOLD_LETTERS = 100;

    private final Pad pad;
    private final Book book;
    /** Null where nothing has been kept yet. */
    private final Book[] images;
    private final Net net;
    private final Ranking ranking;
    private final Writing writing;
    /** The net and the ranking are made anew only when asked for, as many changes may come in between. */
    private boolean netStands;
    private boolean rankingStands;

    public CutLetters() {
        pad = new Pad();
        book = new Book();
        images = new Book[IMAGES];
        net = new Net();
        ranking = new Ranking();
        writing = new Writing();
    }

    // ---- 1 words, lines

    public int say(int sign) {
        if (sign < LEAST_SIGN || sign > LAST_SIGN) {
            return OUTSIDE;
        }
        return pad.add(sign) ? pad.count : FULL;
    }

    public int wipe() {
        int count = pad.count;
        pad.clear();
        return count;
    }

    public int fault(int as) {
        if (as == 0) {
            return pad.readWord();
        }
        return as == 1 ? pad.readLine() : OUTSIDE;
    }

    public int learn() {
        if (pad.readWord() != NONE) {
            return NO;
        }
        int number = book.dictionary.put(pad);
        if (number == FULL) {
            return FULL;
        }
        pad.clear();
        somethingChanged();
        return number;
    }

    public int forget(int word) {
        if (!book.dictionary.has(word)) {
            return UNKNOWN;
        }
        book.dictionary.remove(word);
        somethingChanged();
        return book.dictionary.count;
    }

    public int word(int word, int what) {
        if (!book.dictionary.has(word)) {
            return UNKNOWN;
        }
        return what < 0 ? OUTSIDE : book.dictionary.tell(word, what);
    }

    public int line() {
        if (pad.readLine() != NONE) {
            return NO;
        }
        book.takeLine(pad);
        pad.clear();
        somethingChanged();
        return book.lineLength;
    }

    public int join(int one, int other, int cost) {
        if (!isJoin(one, other)) {
            return UNKNOWN;
        }
        if (cost < 0 || cost > MOST_COST) {
            return OUTSIDE;
        }
        int at = one * JOIN_SIDES + other;
        int was = book.joins[at];
        book.joins[at] = cost;
        somethingChanged();
        return was;
    }

    public int rule(int what, int n) {
        if (what < 0 || what >= RULES || n < 0 || n > RULE_LIMITS[what]) {
            return OUTSIDE;
        }
        int was = book.rules[what];
        book.rules[what] = n;
        somethingChanged();
        return was;
    }

    // ---- 2 pieces, cuttings

    public int pieces() {
        if (!hasLine()) {
            return NO;
        }
        makeNet();
        return net.count;
    }

    public int piece(int i, int what) {
        if (!hasLine()) {
            return NO;
        }
        makeNet();
        if (i < 0 || i >= net.count) {
            return UNKNOWN;
        }
        switch (what) {
            case 0: return net.places[i];
            case 1: return net.lengths[i];
            case 2: return net.kinds[i];
            case 3: return net.costs[i];
            case 4: return net.words[i];
            case 5:
                makeRanking();
                return ranking.leastWith(net, i);
            default: return OUTSIDE;
        }
    }

    public int ways() {
        if (!hasLine()) {
            return NO;
        }
        makeNet();
        return net.countWays();
    }

    public int cutting(int i, int j) {
        if (!hasLine()) {
            return NO;
        }
        if (i < 0 || i >= MOST_CUTTINGS) {
            return UNKNOWN;
        }
        if (j < -2) {
            return OUTSIDE;
        }
        makeRanking();
        if (i >= ranking.cuttings()) {
            return NONE;
        }
        if (j == -1) {
            return ranking.costOf(i);
        }
        int count = ranking.follow(net, i);
        if (j == -2) {
            return count;
        }
        return j < count ? ranking.followed[j] : NONE;
    }

    public int sure(int d) {
        if (d < 0 || d > MOST_ABOVE) {
            return OUTSIDE;
        }
        if (!hasLine()) {
            return NO;
        }
        makeRanking();
        return ranking.cuttings() == 0 ? NONE : ranking.surePlaces(net, d);
    }

    // ---- 3 written

    public int sign(int i, int j) {
        if (!hasLine()) {
            return NO;
        }
        if (i < 0 || i >= MOST_CUTTINGS) {
            return UNKNOWN;
        }
        makeRanking();
        if (i >= ranking.cuttings()) {
            return NONE;
        }
        writing.write(i, ranking, net, book);
        if (j == -1) {
            return writing.count;
        }
        return j >= 0 && j < writing.count ? writing.signs[j] : NONE;
    }

    public int image(int n) {
        if (n < 0 || n >= IMAGES) {
            return OUTSIDE;
        }
        Book kept = images[n];
        if (kept == null) {
            kept = new Book();
            images[n] = kept;
        }
        kept.copy(book);
        return 1;
    }

    public int restore(int n) {
        if (n < 0 || n >= IMAGES) {
            return OUTSIDE;
        }
        Book kept = images[n];
        if (kept == null) {
            return STATE;
        }
        book.copy(kept);
        somethingChanged();
        return 1;
    }

    public int told(int what) {
        switch (what) {
            case 0: return pad.count;
            case 1: return book.dictionary.count;
            case 2: return book.lineLength;
            default: break;
        }
        if (what >= TOLD_RULES && what < TOLD_RULES + RULES) {
            return book.rules[what - TOLD_RULES];
        }
        if (what >= TOLD_JOINS && what < TOLD_JOINS + EDGE * JOIN_SIDES + EDGE) {
            return book.joins[what - TOLD_JOINS];
        }
        if (what >= TOLD_LETTERS && what - TOLD_LETTERS < book.lineLength) {
            return book.line[what - TOLD_LETTERS];
        }
        return OUTSIDE;
    }

    private static boolean isJoin(int one, int other) {
        if (one < 0 || one > EDGE || other < 0 || other > EDGE) {
            return false;
        }
        return one != EDGE || other != EDGE;
    }

    private boolean hasLine() {
        return book.lineLength > 0;
    }

    private void somethingChanged() {
        netStands = false;
        rankingStands = false;
    }

    private void makeNet() {
        if (!netStands) {
            net.make(book);
            netStands = true;
        }
    }

    private void makeRanking() {
        makeNet();
        if (!rankingStands) {
            ranking.make(net);
            rankingStands = true;
        }
    }

    /** The signs that were said, and how they read as a word or as a line. */
    static final class Pad {
        final int[] signs = new int[MOST_SIGNS];
        int count;
        /** What the last reading of a word without a fault has found. */
        int letters;
        int kind;
        int cost;

        boolean add(int sign) {
            if (count >= MOST_SIGNS) {
                return false;
            }
            signs[count] = sign;
            count++;
            return true;
        }

        void clear() {
            count = 0;
        }

        /** The fault as a line, or NONE. */
        int readLine() {
            int found = leadingLetters(MOST_LETTERS);
            return found > 0 && found == count ? NONE : found;
        }

        /** The fault as a word, or NONE. */
        int readWord() {
            letters = leadingLetters(LONGEST);
            if (letters == 0 || signAt(letters) != '=') {
                return letters;
            }
            int at = letters + 1;
            kind = kindNamedAt(at);
            if (kind == NONE) {
                return at;
            }
            return readCost(nameStandsAt(at, kind) ? at + NAME_LENGTH : at + 1);
        }

        private int readCost(int at) {
            if (!isFigure(signAt(at))) {
                return at;
            }
            cost = signAt(at) - '0';
            int next = at + 1;
            if (isFigure(signAt(next))) {
                cost = cost * 10 + signAt(next) - '0';
                next++;
            }
            return next == count ? NONE : next;
        }

        private int leadingLetters(int most) {
            int found = 0;
            while (found < most && isLetter(signAt(found))) {
                found++;
            }
            return found;
        }

        /** 0, which no sign is, where none stands: so a reading need not ask for the end. */
        private int signAt(int at) {
            return at >= 0 && at < count && at < MOST_SIGNS ? signs[at] : 0;
        }

        private int kindNamedAt(int at) {
            for (int named = 0; named < WILD; named++) {
                if (signAt(at) == NAMES.charAt(named * NAME_LENGTH)) {
                    return named;
                }
            }
            return NONE;
        }

        private boolean nameStandsAt(int at, int named) {
            for (int i = 0; i < NAME_LENGTH; i++) {
                if (signAt(at + i) != NAMES.charAt(named * NAME_LENGTH + i)) {
                    return false;
                }
            }
            return true;
        }

        private static boolean isLetter(int sign) {
            return sign >= 'a' && sign <= 'h';
        }

        private static boolean isFigure(int sign) {
            return sign >= '0' && sign <= '9';
        }
    }

    /** The words, in rows that lie side by side so that an image is a copy of rows. */
    static final class Dictionary {
        final int[] letters = new int[MOST_WORDS * LONGEST];
        final int[] lengths = new int[MOST_WORDS];
        final int[] kinds = new int[MOST_WORDS];
        final int[] costs = new int[MOST_WORDS];
        int count;

        boolean has(int number) {
            return number >= 0 && number < count && number < MOST_WORDS;
        }

        /** The number of the word that the pad has read; FULL if it is new and has no room. */
        int put(Pad pad) {
            int number = find(pad);
            if (number == NONE) {
                if (count >= MOST_WORDS) {
                    return FULL;
                }
                number = count;
                count++;
                lengths[number] = pad.letters;
                kinds[number] = pad.kind;
                System.arraycopy(pad.signs, 0, letters, number * LONGEST, pad.letters);
            }
            costs[number] = pad.cost;
            return number;
        }

        private int find(Pad pad) {
            for (int number = 0; number < count; number++) {
                if (lengths[number] == pad.letters && kinds[number] == pad.kind
                        && standsAt(number, pad.signs, 0, pad.letters)) {
                    return number;
                }
            }
            return NONE;
        }

        /** Whether the word's letters stand in a row of signs, from a place on and before its end. */
        boolean standsAt(int number, int[] row, int place, int end) {
            if (lengths[number] > end - place) {
                return false;
            }
            for (int i = 0; i < lengths[number]; i++) {
                if (letters[number * LONGEST + i] != row[place + i]) {
                    return false;
                }
            }
            return true;
        }

        void remove(int number) {
            int behind = count - number - 1;
            System.arraycopy(letters, (number + 1) * LONGEST, letters, number * LONGEST, behind * LONGEST);
            System.arraycopy(lengths, number + 1, lengths, number, behind);
            System.arraycopy(kinds, number + 1, kinds, number, behind);
            System.arraycopy(costs, number + 1, costs, number, behind);
            count--;
        }

        int tell(int number, int what) {
            switch (what) {
                case 0: return lengths[number];
                case 1: return kinds[number];
                case 2: return costs[number];
                default: break;
            }
            int i = what - 3;
            return i >= 0 && i < lengths[number] ? letters[number * LONGEST + i] : NONE;
        }

        void copy(Dictionary other) {
            System.arraycopy(other.letters, 0, letters, 0, MOST_WORDS * LONGEST);
            System.arraycopy(other.lengths, 0, lengths, 0, MOST_WORDS);
            System.arraycopy(other.kinds, 0, kinds, 0, MOST_WORDS);
            System.arraycopy(other.costs, 0, costs, 0, MOST_WORDS);
            count = other.count;
        }
    }

    /** All that an image keeps. */
    static final class Book {
        final Dictionary dictionary = new Dictionary();
        final int[] joins = new int[JOIN_SIDES * JOIN_SIDES];
        final int[] rules = {0, 50, 10, 1};
        final int[] line = new int[MOST_LETTERS];
        /** 0: there is no line. */
        int lineLength;

        void takeLine(Pad pad) {
            lineLength = Math.min(pad.count, MOST_LETTERS);
            System.arraycopy(pad.signs, 0, line, 0, lineLength);
        }

        /** How many letters of one class stand from a place on, as far as a wild piece can reach. */
        int runLength(int place) {
            int end = Math.min(lineLength, place + LONGEST);
            int at = place;
            while (at < end && classOf(line[at]) == classOf(line[place])) {
                at++;
            }
            return at - place;
        }

        private static int classOf(int letter) {
            return letter == 'a' || letter == 'e' ? 0 : 1;
        }

        void copy(Book other) {
            dictionary.copy(other.dictionary);
            System.arraycopy(other.joins, 0, joins, 0, JOIN_SIDES * JOIN_SIDES);
            System.arraycopy(other.rules, 0, rules, 0, RULES);
            System.arraycopy(other.line, 0, line, 0, MOST_LETTERS);
            lineLength = other.lineLength;
        }
    }

    /** All pieces of the line, in their order, and what it costs when they meet. */
    static final class Net {
        private static final int NOTHING = -1;

        int lineLength;
        int count;
        final int[] places = new int[MOST_PIECES];
        final int[] lengths = new int[MOST_PIECES];
        final int[] kinds = new int[MOST_PIECES];
        final int[] costs = new int[MOST_PIECES];
        /** NONE: a wild piece. */
        final int[] words = new int[MOST_PIECES];
        /** The first piece at each place; at the line's end, how many there are. */
        final int[] firsts = new int[MOST_LETTERS + 1];
        private final int[] joins = new int[JOIN_SIDES * JOIN_SIDES];
        /** What begins at one place, by length and then by kind, as no two pieces there share both. */
        private final int[] slots = new int[(LONGEST + 1) * KINDS];
        private final int[] routes = new int[MOST_LETTERS + 1];

        void make(Book book) {
            lineLength = book.lineLength;
            System.arraycopy(book.joins, 0, joins, 0, JOIN_SIDES * JOIN_SIDES);
            count = 0;
            for (int place = 0; place < lineLength; place++) {
                firsts[place] = count;
                fillSlots(book, place);
                addSlots(book, place);
            }
            firsts[lineLength] = count;
        }

        private void fillSlots(Book book, int place) {
            for (int slot = 0; slot < slots.length; slot++) {
                slots[slot] = NOTHING;
            }
            boolean wordBegins = fillWords(book, place);
            int when = book.rules[WHEN];
            if (when != WHEN_NEVER && !(when == WHEN_NO_WORD && wordBegins)) {
                fillWild(book, place);
            }
        }

        private boolean fillWords(Book book, int place) {
            Dictionary dictionary = book.dictionary;
            boolean found = false;
            for (int number = 0; number < dictionary.count; number++) {
                if (dictionary.standsAt(number, book.line, place, book.lineLength)) {
                    slots[dictionary.lengths[number] * KINDS + dictionary.kinds[number]] = number;
                    found = true;
                }
            }
            return found;
        }

        private void fillWild(Book book, int place) {
            int run = book.runLength(place);
            slots[run * KINDS + WILD] = NONE;
            for (int length = 1; length <= book.rules[SHORT] && length < run; length++) {
                slots[length * KINDS + WILD] = NONE;
            }
        }

        private void addSlots(Book book, int place) {
            for (int slot = 0; slot < slots.length; slot++) {
                if (slots[slot] != NOTHING && count < MOST_PIECES) {
                    add(book, place, slot);
                }
            }
        }

        private void add(Book book, int place, int slot) {
            int word = slots[slot];
            int length = slot / KINDS;
            places[count] = place;
            lengths[count] = length;
            kinds[count] = slot % KINDS;
            words[count] = word;
            costs[count] = word == NONE
                    ? book.rules[BASE] + book.rules[EACH] * length
                    : book.dictionary.costs[word];
            count++;
        }

        /** What a piece costs behind one of a kind, or behind the line's edge. */
        int joinBefore(int kind, int piece) {
            return joins[kind * JOIN_SIDES + kinds[piece]];
        }

        int joinAtEnd(int kind) {
            return joins[kind * JOIN_SIDES + EDGE];
        }

        /** From the last piece back, all that begin where a piece ends are counted before it. */
        int countWays() {
            for (int place = 0; place < lineLength; place++) {
                routes[place] = 0;
            }
            routes[lineLength] = 1;
            for (int piece = count - 1; piece >= 0; piece--) {
                int place = places[piece];
                routes[place] = (routes[place] + routes[place + lengths[piece]]) % WAYS_DIVISOR;
            }
            return routes[0];
        }
    }

    /**
     * The least ways through the net. A spot is a place and the kind of the piece that ends there:
     * what may follow, and at what cost, hangs on these two alone. A way on from a spot is one
     * number: its cost, its first piece, and which of the ways at the spot behind that it goes on
     * with; so the order of these numbers is the order of the ways.
     */
    static final class Ranking {
        private static final int SPOTS = (MOST_LETTERS + 1) * JOIN_SIDES;
        private static final int START = EDGE;
        /** Far above each cost that can be. */
        private static final int NEVER = 1000000;
        /** Room for twelve ranks; then for 480 pieces; no cost is above 7,227, so an int holds all. */
        private static final int RANK_ROOM = 16;
        private static final int PIECE_ROOM = 512;
        private static final int COST_UNIT = PIECE_ROOM * RANK_ROOM;

        /** The least cost of what stands before a spot. */
        private final int[] before = new int[SPOTS];
        /** How many ways from a spot to the line's end are kept. */
        private final int[] counts = new int[SPOTS];
        private final int[] kept = new int[SPOTS * MOST_CUTTINGS];
        /** The pieces of the cutting that was followed last. */
        final int[] followed = new int[MOST_LETTERS];

        void make(Net net) {
            reachSpots(net);
            rankEnds(net);
            for (int place = net.lineLength - 1; place > 0; place--) {
                for (int kind = 0; kind < KINDS; kind++) {
                    rankSpot(net, place, kind);
                }
            }
            rankSpot(net, 0, EDGE);
        }

        private void rankEnds(Net net) {
            for (int kind = 0; kind < KINDS; kind++) {
                int spot = net.lineLength * JOIN_SIDES + kind;
                counts[spot] = 1;
                kept[spot * MOST_CUTTINGS] = net.joinAtEnd(kind) * COST_UNIT;
            }
        }

        private void rankSpot(Net net, int place, int kind) {
            int spot = place * JOIN_SIDES + kind;
            counts[spot] = 0;
            if (before[spot] >= NEVER) {
                return;
            }
            for (int piece = net.firsts[place]; piece < net.firsts[place + 1]; piece++) {
                offerWays(net, spot, piece, net.joinBefore(kind, piece) + net.costs[piece]);
            }
        }

        private void offerWays(Net net, int spot, int piece, int cost) {
            int behind = spotBehind(net, piece);
            int ways = counts[behind];
            boolean taken = true;
            for (int rank = 0; rank < ways && taken; rank++) {
                int whole = cost + kept[behind * MOST_CUTTINGS + rank] / COST_UNIT;
                taken = offer(spot, whole * COST_UNIT + piece * RANK_ROOM + rank);
            }
        }

        private boolean offer(int spot, int way) {
            int first = spot * MOST_CUTTINGS;
            int at = first + counts[spot];
            if (counts[spot] < MOST_CUTTINGS) {
                counts[spot]++;
            } else {
                at--;
                if (kept[at] < way) {
                    return false;
                }
            }
            for (; at > first && kept[at - 1] > way; at--) {
                kept[at] = kept[at - 1];
            }
            kept[at] = way;
            return true;
        }

        private static int spotBehind(Net net, int piece) {
            return (net.places[piece] + net.lengths[piece]) * JOIN_SIDES + net.kinds[piece];
        }

        /** Pieces come by rising place, so all that end before a piece have been taken before it. */
        private void reachSpots(Net net) {
            for (int spot = 0; spot < SPOTS; spot++) {
                before[spot] = NEVER;
            }
            before[START] = 0;
            for (int piece = 0; piece < net.count; piece++) {
                int behind = spotBehind(net, piece);
                before[behind] = Math.min(before[behind], leastUpTo(net, piece));
            }
        }

        /** The least cost from the first letter to the piece's end, the piece with it; NEVER, or above: none. */
        private int leastUpTo(Net net, int piece) {
            int least = NEVER;
            for (int kind = 0; kind < JOIN_SIDES; kind++) {
                int spot = net.places[piece] * JOIN_SIDES + kind;
                least = Math.min(least, before[spot] + net.joinBefore(kind, piece));
            }
            return least + net.costs[piece];
        }

        /** The least cost of a cutting that has the piece, or NONE. */
        int leastWith(Net net, int piece) {
            int ahead = leastUpTo(net, piece);
            int behind = spotBehind(net, piece);
            if (ahead >= NEVER || counts[behind] == 0) {
                return NONE;
            }
            return ahead + kept[behind * MOST_CUTTINGS] / COST_UNIT;
        }

        int cuttings() {
            return counts[START];
        }

        int costOf(int cutting) {
            return kept[START * MOST_CUTTINGS + cutting] / COST_UNIT;
        }

        /** Lays the pieces of a cutting into its row: how many. */
        int follow(Net net, int cutting) {
            int end = net.lineLength * JOIN_SIDES;
            int count = 0;
            int spot = START;
            int rank = cutting;
            while (count < MOST_LETTERS && spot < end) {
                int way = kept[spot * MOST_CUTTINGS + rank];
                int piece = way / RANK_ROOM % PIECE_ROOM;
                followed[count] = piece;
                count++;
                spot = spotBehind(net, piece);
                rank = way % RANK_ROOM;
            }
            return count;
        }

        /** A cutting has no cut at a place just if one of its pieces has that place inside. */
        int surePlaces(Net net, int above) {
            int most = costOf(0) + above;
            int bits = (1 << net.lineLength) - 2;
            for (int piece = 0; piece < net.count; piece++) {
                int least = leastWith(net, piece);
                if (least != NONE && least <= most) {
                    int place = net.places[piece];
                    int end = place + net.lengths[piece];
                    int inside = (1 << end) - (1 << (place + 1));
                    bits &= ~inside;
                }
            }
            return bits;
        }
    }

    /** A cutting as it is written. */
    static final class Writing {
        final int[] signs = new int[MOST_WRITTEN];
        int count;

        void write(int cutting, Ranking ranking, Net net, Book book) {
            count = 0;
            int pieces = ranking.follow(net, cutting);
            for (int i = 0; i < pieces; i++) {
                if (i > 0) {
                    add('|');
                }
                writePiece(ranking.followed[i], net, book);
            }
        }

        private void writePiece(int piece, Net net, Book book) {
            int place = net.places[piece];
            for (int i = 0; i < net.lengths[piece]; i++) {
                add(book.line[place + i]);
            }
            if (net.kinds[piece] == WILD) {
                add('?');
            }
        }

        private void add(int sign) {
            if (count < MOST_WRITTEN) {
                signs[count] = sign;
                count++;
            }
        }
    }
}
