/** A player of songs whose next song comes by chance, and by a rule; ../shared/DOC.md tells what it answers. */
public final class SongsAgain {
    public static final int NONE = -1, UNKNOWN = -101, OUTSIDE = -102, STATE = -103, FULL = -104;

    private static final int FEWEST_SONGS = 2, MOST_SONGS = 6, MOST_LETTERS = 22, MOST_HEARD = 8, MOST_CODE = 126;
    private static final int RULES = 4, SINGERS = 4, KINDS = 5, SONG_FACTS = 10, COUNTS = 12;
    private static final int NOT_THE_SINGER = 1, FROM_THE_BAG = 2, NOT_THE_SINGER_FROM_THE_BAG = 3;
    private static final int SONG = 0, LONG = 1, HIT = 2, NURSERY = 3, ANTHEM = 4;
    private static final String KIND_LETTERS = "slhna";
    private static final int FIRST_PLACE = 10, MOST_EVENING = 60;

    private final Page page = new Page();
    private final Book book = new Book();
    private final Past now = new Past();
    private final Past kept = new Past();
    private final Fraction sum = new Fraction();
    private final Fraction chance = new Fraction();
    private final Fraction best = new Fraction();
    private final Orders orders = new Orders();
    private boolean isKept = false;
    private int playersRead = 0;

    public SongsAgain() {
    }

    // ---- the player

    public int letter(int code) {
        if (code < 1 || code > MOST_CODE) {
            return OUTSIDE;
        }
        if (page.length >= MOST_LETTERS) {
            return FULL;
        }
        page.append(code);
        return page.length;
    }

    public int blank() {
        int had = page.length;
        page.clear();
        return had;
    }

    public int fault() {
        return page.firstFault();
    }

    public int player() {
        if (!page.isWhole()) {
            return STATE;
        }
        book.read(page);
        now.begin(page.ruleRead(), book.all());
        isKept = false;
        playersRead++;
        page.clear();
        return book.number;
    }

    public int song(int song, int what) {
        if (!book.has(song)) {
            return UNKNOWN;
        }
        if (what < 0 || what >= SONG_FACTS) {
            return OUTSIDE;
        }
        return songFact(song, what);
    }

    public int as(int song, int kind) {
        if (!book.has(song)) {
            return UNKNOWN;
        }
        if (kind < 0 || kind >= KINDS) {
            return OUTSIDE;
        }
        return book.isOfKind(song, kind) ? song : NONE;
    }

    public int rule(int rule) {
        if (rule < 0 || rule >= RULES) {
            return OUTSIDE;
        }
        if (noPlayer()) {
            return STATE;
        }
        int before = now.rule;
        now.rule = rule;
        return before;
    }

    public int play(int song) {
        if (!book.has(song)) {
            return UNKNOWN;
        }
        if (!holds(mayNow(), song)) {
            return STATE;
        }
        now.bag = book.bagAfter(now.bag, song);
        now.last = song;
        now.lastIsSkipped = false;
        now.played.increase(song);
        return Integer.bitCount(now.bag);
    }

    public int skip() {
        if (now.last == NONE || now.lastIsSkipped) {
            return STATE;
        }
        now.lastIsSkipped = true;
        now.skipped.increase(now.last);
        return weight(now.last);
    }

    // ---- what would be

    public long twice(int songs, int what) {
        if (songs < 2 || songs > 3 || what < 0 || what > 1) {
            return OUTSIDE;
        }
        if (noPlayer()) {
            return STATE;
        }
        reckonTwice(songs);
        return what == 0 ? sum.above : sum.below;
    }

    public int party(int songs, int what) {
        // without a player there are no songs, and so no bits but none
        if (songs < 0 || songs > book.all()) {
            return OUTSIDE;
        }
        if (what != 0 && (what < FIRST_PLACE || what >= FIRST_PLACE + MOST_SONGS)) {
            return OUTSIDE;
        }
        if (noPlayer()) {
            return STATE;
        }
        orders.findAll(book, songs);
        return orders.fact(what);
    }

    // ---- what is heard

    public int hear(int song) {
        if (!book.has(song)) {
            return UNKNOWN;
        }
        if (now.heardLength >= MOST_HEARD) {
            return FULL;
        }
        now.heard.put(now.heardLength, song);
        now.heardLength++;
        return now.heardLength;
    }

    public int forget() {
        int came = now.heardLength;
        now.heardLength = 0;
        return came;
    }

    public int rules() {
        return noPlayer() ? STATE : possibleRules();
    }

    public int likely() {
        return noPlayer() ? STATE : likeliestRule();
    }

    public int evenings(int songs, int seed, int what) {
        if (songs < 1 || songs > MOST_EVENING || seed < 0 || what < 0 || what > 2) {
            return OUTSIDE;
        }
        if (noPlayer()) {
            return STATE;
        }
        return eveningFact(songs, seed, what);
    }

    // ---- what is told of all

    public int image() {
        if (noPlayer()) {
            return STATE;
        }
        kept.become(now);
        isKept = true;
        return now.played.sum();
    }

    public int restore() {
        if (!isKept) {
            return STATE;
        }
        now.become(kept);
        return now.played.sum();
    }

    public int count(int what) {
        switch (what) {
            case 0: return book.number;
            case 1: return now.rule;
            case 2: return now.played.sum();
            case 3: return now.skipped.sum();
            case 4: return minutesPlayed();
            case 5: return now.played.aboveNothing();
            case 6: return Integer.bitCount(now.bag);
            case 7: return Integer.bitCount(mayNow());
            case 8: return now.last;
            case 9: return now.heardLength;
            case 10: return page.length;
            case 11: return playersRead;
            default: return OUTSIDE;
        }
    }

    public long digest() {
        long h = 997L;
        for (int song = 0; song < book.number; song++) {
            for (int what = 0; what < SONG_FACTS; what++) {
                h = 31L * h + songFact(song, what);
            }
        }
        if (!noPlayer()) {
            h = digestOfPlayer(h);
        }
        for (int place = 0; place < page.length; place++) {
            h = 31L * h + page.codes.at(place);
        }
        for (int what = 0; what < COUNTS; what++) {
            h = 31L * h + count(what);
        }
        return h;
    }

    private long digestOfPlayer(long start) {
        long h = start;
        reckonTwice(2);
        h = 31L * h + sum.above;
        h = 31L * h + sum.below;
        orders.findAll(book, book.all());
        h = 31L * h + orders.fact(0);
        for (int place = 0; place < MOST_SONGS; place++) {
            h = 31L * h + orders.fact(FIRST_PLACE + place);
        }
        h = 31L * h + possibleRules();
        return 31L * h + likeliestRule();
    }

    private boolean noPlayer() {
        return book.number == 0;
    }

    private int mayNow() {
        return book.mayCome(now.rule, now.bag, now.last);
    }

    private int songFact(int song, int what) {
        switch (what) {
            case 0: return book.kinds.at(song);
            case 1: return book.singers.at(song);
            case 2: return weight(song);
            case 3: return book.minutes.at(song);
            case 4: return now.played.at(song);
            case 5: return now.skipped.at(song);
            case 6: return holds(now.bag, song) ? 1 : 0;
            case 7: return holds(mayNow(), song) ? 1 : 0;
            case 8: return (int) chanceNow(song).above;
            default: return (int) chanceNow(song).below;
        }
    }

    private Fraction chanceNow(int song) {
        int may = mayNow();
        int together = weightTogether(may);
        chance.become(share(song, may, together), allShares(may, together));
        return chance;
    }

    private int minutesPlayed() {
        int minutes = 0;
        for (int song = 0; song < book.number; song++) {
            minutes += now.played.at(song) * book.minutes.at(song);
        }
        return minutes;
    }

    private int weight(int song) {
        return Math.max(0, book.weights.at(song) - now.skipped.at(song));
    }

    private int weightTogether(int may) {
        int together = 0;
        for (int song = 0; song < book.number; song++) {
            together += holds(may, song) ? weight(song) : 0;
        }
        return together;
    }

    /** Where none of them weighs anything each has a share of 1, so that one of them can still come. */
    private int share(int song, int may, int together) {
        if (!holds(may, song)) {
            return 0;
        }
        return together == 0 ? 1 : weight(song);
    }

    private static int allShares(int may, int together) {
        return together == 0 ? Integer.bitCount(may) : together;
    }

    private void reckonTwice(int songs) {
        sum.become(0L, 1L);
        sumTwice(this, songs, now.bag, now.last, 0, 1L, 1L);
    }

    /**
     * Adds the chances of all ways on from here by which a song comes that came already; above / below is the
     * chance of the way so far. It goes at most three deep: left is 3 at first, and 1 less each time.
     */
    private static void sumTwice(SongsAgain of, int left, int bag, int last, int came, long above, long below) {
        if (left <= 0) {
            return;
        }
        int may = of.book.mayCome(of.now.rule, bag, last);
        int together = of.weightTogether(may);
        long wayBelow = below * allShares(may, together);
        for (int song = 0; song < of.book.number; song++) {
            long wayAbove = above * of.share(song, may, together);
            if (wayAbove > 0L && holds(came, song)) {
                of.sum.add(wayAbove, wayBelow);
            } else if (wayAbove > 0L) {
                int bagThen = of.book.bagAfter(bag, song);
                sumTwice(of, left - 1, bagThen, song, came | 1 << song, wayAbove, wayBelow);
            }
        }
    }

    private int possibleRules() {
        int bits = 0;
        for (int rule = 0; rule < RULES; rule++) {
            reckonHeard(rule);
            bits |= chance.above > 0 ? 1 << rule : 0;
        }
        return bits;
    }

    private int likeliestRule() {
        int likeliest = NONE;
        best.become(0L, 1L);
        for (int rule = 0; rule < RULES; rule++) {
            reckonHeard(rule);
            if (chance.isMoreThan(best)) {
                best.become(chance.above, chance.below);
                likeliest = rule;
            }
        }
        return likeliest;
    }

    /** How likely just what was heard comes by a rule; it is of another player, so the skips here don't count. */
    private void reckonHeard(int rule) {
        int bag = book.all();
        int last = NONE;
        chance.become(1L, 1L);
        for (int i = 0; i < now.heardLength; i++) {
            int song = now.heard.at(i);
            int may = book.mayCome(rule, bag, last);
            if (!holds(may, song)) {
                chance.become(0L, 1L);
                return;
            }
            chance.multiply(book.weights.at(song), book.weightTogether(may));
            bag = book.bagAfter(bag, song);
            last = song;
        }
    }

    private int eveningFact(int length, int seed, int what) {
        long next = seed;
        int bag = now.bag;
        int last = now.last;
        int came = 0;
        int minutes = 0;
        for (int i = 0; i < length; i++) {
            next = seedAfter(next);
            int song = drawn(next, book.mayCome(now.rule, bag, last));
            bag = book.bagAfter(bag, song);
            last = song;
            came |= 1 << song;
            minutes += book.minutes.at(song);
        }
        if (what == 0) {
            return Integer.bitCount(came);
        }
        return what == 1 ? minutes : (int) next;
    }

    private static long seedAfter(long seed) {
        return (1103515245L * seed + 12345L) & 0x7fffffffL;
    }

    private int drawn(long seed, int may) {
        int together = weightTogether(may);
        int all = allShares(may, together);
        if (all <= 0) {
            return 0;
        }
        long rest = (seed / 65536L) % all;
        for (int song = 0; song < book.number; song++) {
            rest -= share(song, may, together);
            if (rest < 0) {
                return song;
            }
        }
        return 0;
    }

    private static boolean holds(int bits, int song) {
        return song >= 0 && song < MOST_SONGS && (bits >> song & 1) == 1;
    }

    /** Numbers in a row of fixed length whose every place is looked at before it is used. */
    private static final class Row {
        private final int[] cells;

        Row(int length) {
            cells = new int[Math.max(0, length)];
        }

        int at(int place) {
            return place >= 0 && place < cells.length ? cells[place] : 0;
        }

        void put(int place, int number) {
            if (place >= 0 && place < cells.length) {
                cells[place] = number;
            }
        }

        void increase(int place) {
            put(place, at(place) + 1);
        }

        void clear() {
            for (int i = 0; i < cells.length; i++) {
                cells[i] = 0;
            }
        }

        void become(Row other) {
            for (int i = 0; i < cells.length; i++) {
                cells[i] = other.at(i);
            }
        }

        int sum() {
            int sum = 0;
            for (int i = 0; i < cells.length; i++) {
                sum += cells[i];
            }
            return sum;
        }

        int aboveNothing() {
            int number = 0;
            for (int i = 0; i < cells.length; i++) {
                number += cells[i] > 0 ? 1 : 0;
            }
            return number;
        }
    }

    /** The page. A song takes two letters, and with the ',' or ';' behind it three: places go by threes. */
    private static final class Page {
        private final Row codes = new Row(MOST_LETTERS);
        private int length = 0;

        void append(int code) {
            codes.put(length, code);
            length++;
        }

        void clear() {
            length = 0;
        }

        int firstFault() {
            int semicolon = NONE;
            for (int place = 0; place < length; place++) {
                if (!fits(place, semicolon)) {
                    return place;
                }
                if (codes.at(place) == ';') {
                    semicolon = place;
                }
            }
            return length;
        }

        private boolean fits(int place, int semicolon) {
            int code = codes.at(place);
            if (semicolon != NONE) {
                return place == semicolon + 1 && isDigitBelow(code, RULES);
            }
            switch (place % 3) {
                case 0: return KIND_LETTERS.indexOf((char) code) >= 0;
                case 1: return isDigitBelow(code, SINGERS);
                default: return endsSong(code, place / 3 + 1);
            }
        }

        private static boolean isDigitBelow(int code, int bound) {
            return code >= '0' && code < '0' + bound;
        }

        private static boolean endsSong(int code, int songs) {
            if (code == ',') {
                return songs < MOST_SONGS;
            }
            return code == ';' && songs >= FEWEST_SONGS;
        }

        boolean isWhole() {
            return firstFault() == length && codes.at(length - 2) == ';';
        }

        int songsRead() {
            return Math.min(MOST_SONGS, (length - 1) / 3);
        }

        int kindRead(int song) {
            return KIND_LETTERS.indexOf((char) codes.at(3 * song));
        }

        int singerRead(int song) {
            return codes.at(3 * song + 1) - '0';
        }

        int ruleRead() {
            return codes.at(length - 1) - '0';
        }
    }

    /** The songs of the player, and what follows from their kinds and singers alone, nothing being skipped. */
    private static final class Book {
        private final Row kinds = new Row(MOST_SONGS);
        private final Row singers = new Row(MOST_SONGS);
        private final Row weights = new Row(MOST_SONGS);
        private final Row minutes = new Row(MOST_SONGS);
        private int number = 0;

        void read(Page page) {
            number = page.songsRead();
            for (int song = 0; song < number; song++) {
                int kind = page.kindRead(song);
                kinds.put(song, kind);
                singers.put(song, page.singerRead(song));
                weights.put(song, weightOf(kind));
                minutes.put(song, kind == LONG ? 7 : 3);
            }
        }

        boolean has(int song) {
            return song >= 0 && song < number;
        }

        int all() {
            return (1 << number) - 1;
        }

        boolean isOfKind(int song, int kind) {
            int own = kinds.at(song);
            return kind == own || kind == SONG || kind == HIT && own == ANTHEM;
        }

        private static int weightOf(int kind) {
            switch (kind) {
                case HIT: return 2;
                case ANTHEM: return 3;
                default: return 1;
            }
        }

        int weightTogether(int bits) {
            int together = 0;
            for (int song = 0; song < number; song++) {
                together += holds(bits, song) ? weights.at(song) : 0;
            }
            return together;
        }

        int mayCome(int rule, int bag, int last) {
            boolean fromBag = rule == FROM_THE_BAG || rule == NOT_THE_SINGER_FROM_THE_BAG;
            boolean notTheSinger = rule == NOT_THE_SINGER || rule == NOT_THE_SINGER_FROM_THE_BAG;
            int may = fromBag ? bag : all();
            if (!notTheSinger || last == NONE) {
                return may;
            }
            int unlike = may & mayFollow(last);
            return unlike == 0 ? may : unlike;
        }

        private int mayFollow(int last) {
            int bits = 0;
            for (int song = 0; song < number; song++) {
                if (singers.at(song) != singers.at(last) || kinds.at(song) == NURSERY) {
                    bits |= 1 << song;
                }
            }
            return bits;
        }

        int bagAfter(int bag, int song) {
            int left = bag & ~(1 << song);
            return left == 0 ? all() : left;
        }
    }

    /** What an image keeps: what came about with the player since it was read. */
    private static final class Past {
        private final Row played = new Row(MOST_SONGS);
        private final Row skipped = new Row(MOST_SONGS);
        private final Row heard = new Row(MOST_HEARD);
        private int heardLength = 0;
        private int rule = 0;
        private int bag = 0;
        private int last = NONE;
        private boolean lastIsSkipped = false;

        void begin(int firstRule, int fullBag) {
            played.clear();
            skipped.clear();
            heardLength = 0;
            rule = firstRule;
            bag = fullBag;
            last = NONE;
            lastIsSkipped = false;
        }

        void become(Past other) {
            played.become(other.played);
            skipped.become(other.skipped);
            heard.become(other.heard);
            heardLength = other.heardLength;
            rule = other.rule;
            bag = other.bag;
            last = other.last;
            lastIsSkipped = other.lastIsSkipped;
        }
    }

    /** A chance in lowest terms. */
    private static final class Fraction {
        private static final int MOST_STEPS = 128;
        private long above = 0L;
        private long below = 1L;

        void become(long newAbove, long newBelow) {
            long common = commonDivisor(newAbove, newBelow);
            if (common > 0L) {
                above = newAbove / common;
                below = newBelow / common;
            }
        }

        void multiply(long byAbove, long byBelow) {
            become(above * byAbove, below * byBelow);
        }

        /** By the least common denominator: the product of both could outgrow a long. */
        void add(long otherAbove, long otherBelow) {
            long common = commonDivisor(below, otherBelow);
            if (common > 0L) {
                long widening = otherBelow / common;
                become(above * widening + otherAbove * (below / common), below * widening);
            }
        }

        boolean isMoreThan(Fraction other) {
            return above * other.below > other.above * below;
        }

        /** Euclid's; two longs take fewer than 100 steps. */
        private static long commonDivisor(long one, long other) {
            long divisor = one;
            long rest = other;
            for (int i = 0; i < MOST_STEPS && rest != 0L; i++) {
                long next = divisor % rest;
                divisor = rest;
                rest = next;
            }
            return divisor;
        }
    }

    /** The orders for a party in which no two of one singer come one behind the other. */
    private static final class Orders {
        private final Row way = new Row(MOST_SONGS);
        private final Row first = new Row(MOST_SONGS);
        private int firstLength = 0;
        private int number = 0;

        void findAll(Book book, int bits) {
            number = 0;
            firstLength = 0;
            goOn(this, book, bits, 0);
        }

        /** At most as deep as there are songs, six; they are tried by number, so that the first found is the first. */
        private static void goOn(Orders to, Book book, int left, int depth) {
            if (left == 0) {
                to.take(depth);
                return;
            }
            if (depth >= MOST_SONGS) {
                return;
            }
            for (int song = 0; song < book.number; song++) {
                if (holds(left, song) && (depth == 0 || unlikeSingers(book, song, to.way.at(depth - 1)))) {
                    to.way.put(depth, song);
                    goOn(to, book, left & ~(1 << song), depth + 1);
                }
            }
        }

        private static boolean unlikeSingers(Book book, int song, int other) {
            return book.singers.at(song) != book.singers.at(other);
        }

        private void take(int length) {
            if (number == 0) {
                first.become(way);
                firstLength = length;
            }
            number++;
        }

        int fact(int what) {
            if (what == 0) {
                return number;
            }
            int place = what - FIRST_PLACE;
            return place >= 0 && place < firstLength ? first.at(place) : NONE;
        }
    }
}
