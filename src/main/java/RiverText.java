import java.util.Arrays;
import java.util.NoSuchElementException;

public final class RiverText {
    public static final int NONE = -1;

    /** Told where NONE has a meaning of its own. */
    private static final int ABSENT = -2;
    private static final int OTHER_LIVES = -1000;

    private static final int TAPE_BYTES = 940;
    private static final int FED_BYTES = 20;
    private static final int COUNTRY_BYTES = 900;
    private static final int DAYBOOK_BYTES = 400;
    private static final int SENTENCE_BYTES = 200;
    private static final int ROW_BYTES = 15;
    private static final int MOST_BYTES = 99;
    private static final int NONE_BYTE = 255;

    private static final int MAX_TERMS = 10;
    private static final int MAX_REACHES = 8;
    private static final int MAX_LENGTH = 9;
    private static final int MAX_SAID = 12;
    private static final int MAX_EDITORS = 6;
    private static final int MAX_CHANGES = 20;
    private static final int MAX_TOWNS = 6;
    private static final int MAX_TASTES = 12;
    private static final int MAX_NAMES = MAX_TERMS + MAX_REACHES + MAX_EDITORS + MAX_TOWNS;
    private static final int MAX_BOOK_LINES = 30;
    private static final int MAX_ONES = 20;
    private static final int MAX_WITHIN = 8;

    private static final int ALL_DAYS = 400;
    private static final int MOST_DAYS = 99;
    private static final int REST_DAYS = 60;
    private static final int ODDS_DAYS = 30;
    private static final int MOST_SEEDS = 40;
    private static final int STONE_CHANCE = 4;
    private static final int MOST_SENDINGS = 99;
    private static final int KEPT_ACTS = 4;
    private static final int IMAGES = 2;

    private static final int NO_TOKEN = 1;
    private static final int WRONG_NUMBER = 2;
    private static final int WRONG_NAME = 3;
    private static final int TOO_MANY = 4;

    private static final int FEWER_DAYS = 1;
    private static final int READ_ELSE = 2;
    private static final int SO_ALREADY = 3;

    private static final int TERM_NAME = 0;
    private static final int REACH_NAME = 1;
    private static final int EDITOR_NAME = 2;
    private static final int TOWN_NAME = 3;

    /** Kinds of TOKENS; a sign is its own kind, and all signs lie above these. */
    private static final int END = 0;
    private static final int BROKEN = 1;
    private static final int WORD = 2;
    private static final int NUMBER = 3;

    /** Numbers of the WORDS in KEYWORDS; the first four are the SORTS of TERMS too. */
    private static final int W_NOUN = 0;
    private static final int W_VERB = 1;
    private static final int W_LIKE = 2;
    private static final int W_STOP = 3;
    private static final int W_REACH = 4;
    private static final int W_INTO = 5;
    private static final int W_SAYS = 6;
    private static final int W_EDITOR = 7;
    private static final int W_STRIKE = 8;
    private static final int W_TURN = 9;
    private static final int W_TOWN = 10;
    private static final int W_TASTE = 11;
    private static final int W_DAY = 12;
    private static final int W_READS = 13;
    private static final int W_NONE = 14;
    private static final int W_WAKES = 15;
    private static final int W_SLEEPS = 16;
    private static final int W_OR = 17;
    private static final int W_AND = 18;
    private static final int W_NOT = 19;
    private static final int W_ON = 20;
    private static final int W_SENSE = 21;
    private static final int W_AT = 22;
    private static final int W_WORDS = 23;
    private static final int W_LIKED = 24;
    private static final int W_NUMBER = 25;

    private static final int MAX_LETTERS = 7;
    private static final int MAX_DIGITS = 3;

    /** A WORD is held as its letters in one number, eight bits each. */
    private static final long[] KEYWORDS = {
        0x6e6f756eL, // noun
        0x76657262L, // verb
        0x6c696b65L, // like
        0x73746f70L, // stop
        0x7265616368L, // reach
        0x696e746fL, // into
        0x73617973L, // says
        0x656469746f72L, // editor
        0x737472696b65L, // strike
        0x7475726eL, // turn
        0x746f776eL, // town
        0x7461737465L, // taste
        0x646179L, // day
        0x7265616473L, // reads
        0x6e6f6e65L, // none
        0x77616b6573L, // wakes
        0x736c65657073L, // sleeps
        0x6f72L, // or
        0x616e64L, // and
        0x6e6f74L, // not
        0x6f6eL, // on
        0x73656e7365L, // sense
        0x6174L, // at
        0x776f726473L, // words
        0x6c696b6564L, // liked
        0x6e756d626572L, // number
    };

    private static final int SORTS = 4;

    /**
     * What a SAYING goes on to by a SORT (noun, verb, like, stop), NONE where it makes no sense:
     * ahead of its first NOUN, behind it, behind the VERB, behind a MANNER after the VERB,
     * behind the second NOUN.
     */
    private static final int[] SENSE_STEPS = {
        1, NONE, 0, NONE,
        NONE, 2, NONE, NONE,
        4, NONE, 3, 0,
        4, NONE, 3, NONE,
        NONE, NONE, NONE, 0,
    };

    /** What a TOWN reads is kept in four bits, all TOWNS of a DAY in one number. */
    private static final int READ_BITS = 4;
    private static final int READ_MASK = 15;

    private final Tape tape;
    private final CountryReader countryReader;
    private final Stream stream;
    /** Where DAYS go by that are only asked about. */
    private final Stream trial;
    private final Acts acts;
    private final Daybook book;
    private final Image[] images;
    private final Dice dice;
    private final int[] arrivals;
    private final int[] firstWay;
    private final int[] gains;
    private Country land;
    private Sentence rule;
    /** A text is read into a spare one, since with a FAULT the one there is stays. */
    private Country spareLand;
    private Sentence spareRule;
    private int firstWayLength;
    private int stonesThrown;
    private int faultKind;

    public RiverText() {
        tape = new Tape();
        land = new Country();
        spareLand = new Country();
        countryReader = new CountryReader(tape, spareLand);
        stream = new Stream(ALL_DAYS);
        trial = new Stream(0);
        acts = new Acts();
        rule = new Sentence();
        spareRule = new Sentence();
        book = new Daybook();
        images = new Image[IMAGES];
        for (int k = 0; k < IMAGES; k++) {
            images[k] = new Image();
        }
        dice = new Dice();
        arrivals = new int[MAX_TERMS];
        firstWay = new int[ROW_BYTES];
        gains = new int[(1 << MAX_EDITORS) * MAX_EDITORS];
        firstWayLength = 0;
        stonesThrown = NONE;
        faultKind = 0;
    }

    public int feed(int a, int b, int c, int d, int e) {
        if (tape.length + FED_BYTES > TAPE_BYTES) {
            return NONE;
        }
        tape.take(a);
        tape.take(b);
        tape.take(c);
        tape.take(d);
        tape.take(e);
        return tape.length;
    }

    public boolean end(int n) {
        if (n < 0 || n > tape.length) {
            return false;
        }
        tape.length = n;
        return true;
    }

    public int country() {
        tape.open(COUNTRY_BYTES);
        boolean good = countryReader.readInto(spareLand);
        faultKind = tape.faultKind;
        tape.length = 0;
        if (!good) {
            return -1 - tape.faultPlace;
        }
        Country old = land;
        land = spareLand;
        spareLand = old;
        stream.begin(land.editorCount);
        rule.clear();
        acts.clear();
        return countryReader.lines;
    }

    public int fault() {
        return faultKind;
    }

    public int term(int t) {
        return land.hasTerm(t) ? land.sorts[t] : NONE;
    }

    public int reach(int r, int what) {
        if (!land.hasReach(r)) {
            return NONE;
        }
        switch (what) {
            case 0: return land.lengths[r];
            case 1: return land.into[r];
            case 2: return land.inflows[r];
            case 3: return land.saidCounts[r];
            case 4: return land.saidOn(r, stream.day);
            default: return NONE;
        }
    }

    public int at(int r, int place) throws NoSuchElementException {
        if (!land.hasPlace(r, place)) {
            throw new NoSuchElementException();
        }
        return stream.termAt(land, r, place);
    }

    public int editor(int e, int what) {
        if (!land.hasEditor(e)) {
            return NONE;
        }
        switch (what) {
            case 0: return land.editorReach[e];
            case 1: return land.editorAt[e];
            case 2: return stream.isAwake(e) ? 1 : 0;
            case 3: return stream.struck[e];
            case 4: return stream.turned[e];
            default: return NONE;
        }
    }

    public int makes(int e, int t) {
        return land.hasEditor(e) && land.hasTerm(t) ? land.madeBy(e, t) : ABSENT;
    }

    public int town(int t, int what) throws NoSuchElementException {
        if (!land.hasTown(t)) {
            throw new NoSuchElementException();
        }
        switch (what) {
            case 0: return land.townReach[t];
            case 1: return land.townAt[t];
            case 2: return stream.lastRead[t];
            case 3: return stream.wordsRead[t];
            case 4: return stream.likedRead[t];
            case 5: return stream.firstRead[t];
            default: throw new NoSuchElementException();
        }
    }

    public int now(int what) {
        switch (what) {
            case 0: return stream.day;
            case 1: return stream.onTheirWay();
            case 2: return stream.clashCount;
            case 3: return stream.seaCount;
            case 4: return sumOf(stream.struck);
            case 5: return sumOf(stream.turned);
            default: return NONE;
        }
    }

    public int days(int n) {
        if (!isWithin(n, MOST_DAYS)) {
            return NONE;
        }
        int left = Math.min(n, stream.daysLeft());
        if (left > 0) {
            acts.keep(stream);
            stream.pass(land, left);
        }
        return left;
    }

    public boolean wake(int e, int awake) {
        if (!land.hasEditor(e) || awake < 0 || awake > 1 || stream.isAwake(e) == (awake == 1)) {
            return false;
        }
        acts.keep(stream);
        stream.toggle(e);
        return true;
    }

    public boolean stone(int r, int place, int t) {
        if (!land.hasPlace(r, place) || !(t == NONE || land.hasTerm(t))) {
            return false;
        }
        if (stream.termAt(land, r, place) == t) {
            return false;
        }
        acts.keep(stream);
        stream.put(land, r, place, t);
        return true;
    }

    public int undo() {
        return acts.giveBack(stream) ? acts.size : NONE;
    }

    public int well(int t, int day) {
        if (!land.hasTown(t) || day < 0 || day >= stream.day) {
            return ABSENT;
        }
        return stream.readOn(t, day);
    }

    public int sense(int t) {
        return land.hasTown(t) ? stream.brokenOn[t] : ABSENT;
    }

    public int sayings(int t) {
        return land.hasTown(t) ? stream.wholeSayings[t] : NONE;
    }

    public int flows(int r, int place, int t) {
        return land.hasPlace(r, place) && land.hasTown(t) ? land.daysBetween(r, place, t) : NONE;
    }

    public int above(int t) {
        return land.hasTown(t) ? land.reachesAbove(t) : NONE;
    }

    public int source(int t) {
        return land.hasTown(t) ? land.oneSource(t) : NONE;
    }

    public int comes(int t, int term) {
        if (source(t) == NONE || !land.hasTerm(term)) {
            return ABSENT;
        }
        return land.arrival(t, term, stream.awake);
    }

    public long saying(int t) {
        int length = takeRow(ROW_BYTES);
        if (length == NONE || source(t) == NONE) {
            return NONE;
        }
        fillArrivals(t);
        long ways = 1;
        for (int i = 0; i < length; i++) {
            ways *= countOf(tape.termOf(i));
        }
        if (ways > 0) {
            keepFirstWay(length);
        }
        return ways;
    }

    public int saidAt(int i) {
        return i >= 0 && i < firstWayLength ? firstWay[i] : NONE;
    }

    public int wish(int t) {
        int length = takeRow(ROW_BYTES);
        int from = source(t);
        if (length == NONE || from == NONE) {
            return NONE;
        }
        fillArrivals(t);
        int others = 0;
        for (int i = 0; i < length; i++) {
            int wanted = tape.termOf(i);
            if (leastFor(wanted) == NONE) {
                return NONE;
            }
            int planned = land.saidOn(from, stream.day + i);
            if (planned == NONE || arrivals[planned] != wanted) {
                others++;
            }
        }
        return others;
    }

    public int rests(int n, int k) {
        if (!isWithin(n, REST_DAYS)) {
            return NONE;
        }
        int sets = 1 << land.editorCount;
        for (int set = 0; set < sets; set++) {
            fillGains(set, n);
        }
        int found = 0;
        for (int set = 0; set < sets; set++) {
            if (isRest(set)) {
                if (found == k) {
                    return set;
                }
                found++;
            }
        }
        return k == NONE ? found : NONE;
    }

    public int own(int e) {
        return land.hasEditor(e) ? land.ownTown(e) : NONE;
    }

    public int liked(int t, int set, int n) {
        if (!land.hasTown(t) || set < 0 || set >= 1 << land.editorCount || !isWithin(n, REST_DAYS)) {
            return NONE;
        }
        tryDays(set, n);
        return trial.likedRead[t] - stream.likedRead[t];
    }

    public int sure(int k) {
        return isWithin(k, MOST_SENDINGS) ? (k - 1) / 2 : NONE;
    }

    public int most() {
        int length = takeRow(MOST_BYTES);
        if (length == NONE) {
            return ABSENT;
        }
        for (int t = 0; t < land.termCount; t++) {
            int times = 0;
            for (int i = 0; i < length; i++) {
                if (tape.termOf(i) == t) {
                    times++;
                }
            }
            if (times > length - times) {
                return t;
            }
        }
        return NONE;
    }

    public int when(int t, int term, int n) {
        if (!land.hasTown(t) || !land.hasTerm(term) || !isWithin(n, MOST_DAYS)) {
            return NONE;
        }
        trial.copyFrom(stream);
        int left = Math.min(n, trial.daysLeft());
        for (int i = 0; i < left; i++) {
            trial.passDay(land);
            if (trial.lastRead[t] == term) {
                return trial.day - 1;
            }
        }
        return NONE;
    }

    public int clashes(int n) {
        if (!isWithin(n, MOST_DAYS)) {
            return NONE;
        }
        tryDays(stream.awake, n);
        return trial.clashCount - stream.clashCount;
    }

    public int unlike(int a, int b, int later) {
        if (!land.hasTown(a) || !land.hasTown(b) || later < 0 || later > MOST_DAYS) {
            return NONE;
        }
        int unlikeDays = 0;
        for (int day = 0; day + later < stream.day; day++) {
            if (stream.readOn(a, day) != stream.readOn(b, day + later)) {
                unlikeDays++;
            }
        }
        return unlikeDays;
    }

    public int drawn(int n, int seed) {
        if (!isWithin(n, MOST_DAYS) || land.reachCount == 0) {
            return NONE;
        }
        int left = Math.min(n, stream.daysLeft());
        if (left > 0) {
            acts.keep(stream);
        }
        dice.begin(seed);
        for (int i = 0; i < left; i++) {
            stream.passDrawnDay(land, dice);
        }
        stonesThrown = dice.stonesThrown;
        return left;
    }

    public int stones() {
        return stonesThrown;
    }

    public int odds(int t, int n, int seed) {
        if (!land.hasTown(t) || !isWithin(n, MOST_SEEDS)) {
            return NONE;
        }
        int sensible = 0;
        for (int i = 0; i < n; i++) {
            if (staysSensible(t, seed + i)) {
                sensible++;
            }
        }
        return sensible;
    }

    public int daybook(int lives) {
        if (lives < 0 || lives > 1) {
            return OTHER_LIVES;
        }
        tape.open(DAYBOOK_BYTES);
        boolean good = book.readFrom(tape, land.names);
        faultKind = tape.faultKind;
        tape.length = 0;
        if (!good) {
            return -2 - tape.faultPlace;
        }
        trial.copyFrom(stream);
        if (lives == 0) {
            return book.judge(land, trial);
        }
        int wrong = book.judge(land, stream);
        if (book.linesAhead > 0) {
            acts.keep(trial);
        }
        return wrong;
    }

    public int booked(int what) {
        return book.tell(what);
    }

    public int sentence() {
        tape.open(SENTENCE_BYTES);
        boolean good = spareRule.readFrom(tape, land.names);
        faultKind = tape.faultKind;
        tape.length = 0;
        if (!good) {
            return -1 - tape.faultPlace;
        }
        Sentence old = rule;
        rule = spareRule;
        spareRule = old;
        return rule.ones;
    }

    public int said(int k) {
        if (rule.ones == 0) {
            return NONE;
        }
        int found = 0;
        for (int t = 0; t < land.townCount; t++) {
            if (rule.holdsOf(land, stream, t)) {
                if (found == k) {
                    return t;
                }
                found++;
            }
        }
        return k == NONE ? found : NONE;
    }

    public boolean image(int k) {
        if (k < 0 || k >= IMAGES) {
            return false;
        }
        Image kept = images[k];
        kept.land.copyFrom(land);
        kept.stream.copyFrom(stream);
        kept.rule.copyFrom(rule);
        kept.isKept = true;
        return true;
    }

    public boolean restore(int k) {
        if (k < 0 || k >= IMAGES || !images[k].isKept) {
            return false;
        }
        Image kept = images[k];
        land.copyFrom(kept.land);
        stream.copyFrom(kept.stream);
        rule.copyFrom(kept.rule);
        acts.clear();
        return true;
    }

    public int count(int what) {
        switch (what) {
            case 0: return land.termCount;
            case 1: return land.reachCount;
            case 2: return land.editorCount;
            case 3: return land.changeCount;
            case 4: return land.townCount;
            case 5: return land.tasteCount;
            case 6: return tape.length;
            default: return NONE;
        }
    }

    private static boolean isWithin(int n, int most) {
        return n >= 1 && n <= most;
    }

    private static int sumOf(int[] numbers) {
        int sum = 0;
        for (int number : numbers) {
            sum += number;
        }
        return sum;
    }

    /** How long the row on the tape is, or NONE if it is not as told; its bytes can be read on, but the tape is empty. */
    private int takeRow(int most) {
        int length = tape.length;
        tape.length = 0;
        if (!isWithin(length, most)) {
            return NONE;
        }
        for (int i = 0; i < length; i++) {
            int term = tape.termOf(i);
            if (term != NONE && !land.hasTerm(term)) {
                return NONE;
            }
        }
        return length;
    }

    private void fillArrivals(int t) {
        for (int term = 0; term < land.termCount; term++) {
            arrivals[term] = land.arrival(t, term, stream.awake);
        }
    }

    private int countOf(int arrived) {
        int times = 0;
        for (int term = 0; term < land.termCount; term++) {
            if (arrivals[term] == arrived) {
                times++;
            }
        }
        return times;
    }

    private int leastFor(int arrived) {
        for (int term = 0; term < land.termCount; term++) {
            if (arrivals[term] == arrived) {
                return term;
            }
        }
        return NONE;
    }

    private void keepFirstWay(int length) {
        for (int i = 0; i < length; i++) {
            firstWay[i] = leastFor(tape.termOf(i));
        }
        firstWayLength = length;
    }

    private void tryDays(int awake, int n) {
        trial.copyFrom(stream);
        trial.awake = awake;
        trial.pass(land, n);
    }

    private void fillGains(int set, int n) {
        tryDays(set, n);
        for (int e = 0; e < land.editorCount; e++) {
            int t = land.ownTown(e);
            gains[set * MAX_EDITORS + e] = t == NONE ? 0 : trial.likedRead[t] - stream.likedRead[t];
        }
    }

    private boolean isRest(int set) {
        for (int e = 0; e < land.editorCount; e++) {
            int otherwise = set ^ 1 << e;
            if (gains[otherwise * MAX_EDITORS + e] > gains[set * MAX_EDITORS + e]) {
                return false;
            }
        }
        return true;
    }

    private boolean staysSensible(int t, int seed) {
        trial.copyFrom(stream);
        dice.begin(seed);
        int left = Math.min(ODDS_DAYS, trial.daysLeft());
        for (int i = 0; i < left && trial.brokenOn[t] == NONE; i++) {
            trial.passDrawnDay(land, dice);
        }
        return trial.brokenOn[t] == NONE;
    }

    /** The bytes, and the TOKEN at which a reader of them stands. */
    private static final class Tape {
        final int[] bytes = new int[TAPE_BYTES];
        int length;
        int limit;
        int next;
        int kind;
        int place;
        int key;
        int number;
        long word;
        int faultKind;
        int faultPlace;

        void take(int number) {
            for (int shift = 24; shift >= 0; shift -= 8) {
                if (length < TAPE_BYTES) {
                    bytes[length] = number >>> shift & 255;
                    length++;
                }
            }
        }

        int termOf(int i) {
            return bytes[i] == NONE_BYTE ? NONE : bytes[i];
        }

        void open(int mostBytes) {
            limit = mostBytes;
            next = 0;
            faultKind = 0;
            faultPlace = 0;
            advance();
        }

        void advance() {
            int stop = Math.min(length, limit);
            while (next < stop && (bytes[next] == ' ' || bytes[next] == '\n')) {
                next++;
            }
            key = NONE;
            place = next;
            if (next >= limit && length > limit) {
                kind = BROKEN;
                place = limit;
            } else if (next >= length) {
                kind = END;
            } else {
                scanToken();
            }
            if (kind == WORD) {
                findKey();
            }
        }

        /** A TOKEN that begins ahead of the limit is read whole. */
        private void scanToken() {
            int letters = 0;
            int digits = 0;
            word = 0;
            number = 0;
            while (next < length) {
                int c = bytes[next];
                if (c >= 'a' && c <= 'z') {
                    letters++;
                    word = word << 8 | c;
                } else if (c >= '0' && c <= '9') {
                    digits++;
                    number = number * 10 + c - '0';
                } else {
                    break;
                }
                next++;
            }
            if (letters + digits == 0) {
                int c = bytes[next];
                boolean isSign = c == ';' || c >= '<' && c <= '>' || c == '(' || c == ')' || c == '.';
                kind = isSign ? c : BROKEN;
                next++;
            } else if (digits == 0 && letters <= MAX_LETTERS) {
                kind = WORD;
            } else {
                kind = letters == 0 && digits <= MAX_DIGITS ? NUMBER : BROKEN;
            }
        }

        private void findKey() {
            for (int i = 0; i < KEYWORDS.length; i++) {
                if (KEYWORDS[i] == word) {
                    key = i;
                    return;
                }
            }
        }

        /** A FAULT at the TOKEN; false, so that a reader can end with it. */
        boolean fail(int faultOf) {
            faultKind = faultOf;
            faultPlace = place;
            return false;
        }

        boolean passes(int wantedKind) {
            if (kind != wantedKind) {
                return fail(NO_TOKEN);
            }
            advance();
            return true;
        }

        boolean isName() {
            return kind == WORD && key == NONE;
        }

        boolean isNewName(Names names) {
            if (!isName()) {
                return fail(NO_TOKEN);
            }
            return names.find(word) == NONE || fail(WRONG_NAME);
        }

        /** The number of what is told by the NAME here, or NONE, with a FAULT. */
        int toldName(Names names, int sort) {
            if (!isName()) {
                fail(NO_TOKEN);
                return NONE;
            }
            int index = names.find(word);
            if (index == NONE || names.sorts[index] != sort) {
                fail(WRONG_NAME);
                return NONE;
            }
            return names.numbers[index];
        }

        boolean isNumber(int least, int greatest) {
            if (kind != NUMBER) {
                return fail(NO_TOKEN);
            }
            return number >= least && number <= greatest || fail(WRONG_NUMBER);
        }
    }

    private static final class Names {
        final long[] words = new long[MAX_NAMES];
        final int[] sorts = new int[MAX_NAMES];
        final int[] numbers = new int[MAX_NAMES];
        int size;

        int find(long word) {
            for (int i = 0; i < size; i++) {
                if (words[i] == word) {
                    return i;
                }
            }
            return NONE;
        }

        void add(long word, int sort, int number) {
            if (size < MAX_NAMES) {
                words[size] = word;
                sorts[size] = sort;
                numbers[size] = number;
                size++;
            }
        }

        void copyFrom(Names other) {
            System.arraycopy(other.words, 0, words, 0, MAX_NAMES);
            System.arraycopy(other.sorts, 0, sorts, 0, MAX_NAMES);
            System.arraycopy(other.numbers, 0, numbers, 0, MAX_NAMES);
            size = other.size;
        }
    }

    /** What a COUNTRY's text tells; nothing in it changes from DAY to DAY. */
    private static final class Country {
        final Names names = new Names();
        final int[] sorts = new int[MAX_TERMS];
        final int[] lengths = new int[MAX_REACHES];
        final int[] into = new int[MAX_REACHES];
        final int[] inflows = new int[MAX_REACHES];
        final int[] saidCounts = new int[MAX_REACHES];
        final int[] saidTerms = new int[MAX_REACHES * MAX_SAID];
        final int[] editorReach = new int[MAX_EDITORS];
        final int[] editorAt = new int[MAX_EDITORS];
        final int[] made = new int[MAX_EDITORS * MAX_TERMS];
        final int[] townReach = new int[MAX_TOWNS];
        final int[] townAt = new int[MAX_TOWNS];
        final int[] tastes = new int[MAX_TOWNS];
        int termCount;
        int reachCount;
        int editorCount;
        int changeCount;
        int townCount;
        int tasteCount;

        void clear() {
            names.size = 0;
            termCount = 0;
            reachCount = 0;
            editorCount = 0;
            changeCount = 0;
            townCount = 0;
            tasteCount = 0;
        }

        void copyFrom(Country other) {
            names.copyFrom(other.names);
            System.arraycopy(other.sorts, 0, sorts, 0, MAX_TERMS);
            System.arraycopy(other.lengths, 0, lengths, 0, MAX_REACHES);
            System.arraycopy(other.into, 0, into, 0, MAX_REACHES);
            System.arraycopy(other.inflows, 0, inflows, 0, MAX_REACHES);
            System.arraycopy(other.saidCounts, 0, saidCounts, 0, MAX_REACHES);
            System.arraycopy(other.saidTerms, 0, saidTerms, 0, MAX_REACHES * MAX_SAID);
            System.arraycopy(other.editorReach, 0, editorReach, 0, MAX_EDITORS);
            System.arraycopy(other.editorAt, 0, editorAt, 0, MAX_EDITORS);
            System.arraycopy(other.made, 0, made, 0, MAX_EDITORS * MAX_TERMS);
            System.arraycopy(other.townReach, 0, townReach, 0, MAX_TOWNS);
            System.arraycopy(other.townAt, 0, townAt, 0, MAX_TOWNS);
            System.arraycopy(other.tastes, 0, tastes, 0, MAX_TOWNS);
            termCount = other.termCount;
            reachCount = other.reachCount;
            editorCount = other.editorCount;
            changeCount = other.changeCount;
            townCount = other.townCount;
            tasteCount = other.tasteCount;
        }

        boolean hasTerm(int t) {
            return t >= 0 && t < termCount;
        }

        boolean hasReach(int r) {
            return r >= 0 && r < reachCount;
        }

        boolean hasPlace(int r, int place) {
            return hasReach(r) && place >= 0 && place < lengths[r];
        }

        boolean hasEditor(int e) {
            return e >= 0 && e < editorCount;
        }

        boolean hasTown(int t) {
            return t >= 0 && t < townCount;
        }

        void addTerm(long word, int sort) {
            names.add(word, TERM_NAME, termCount);
            sorts[termCount] = sort;
            termCount++;
        }

        void addReach(long word, int length, int target) {
            names.add(word, REACH_NAME, reachCount);
            lengths[reachCount] = length;
            into[reachCount] = target;
            inflows[reachCount] = 0;
            saidCounts[reachCount] = 0;
            if (hasReach(target)) {
                inflows[target]++;
            }
            reachCount++;
        }

        void addSaid(int r, int term) {
            saidTerms[r * MAX_SAID + saidCounts[r]] = term;
            saidCounts[r]++;
        }

        void addEditor(long word, int r, int place) {
            names.add(word, EDITOR_NAME, editorCount);
            editorReach[editorCount] = r;
            editorAt[editorCount] = place;
            for (int term = 0; term < MAX_TERMS; term++) {
                made[editorCount * MAX_TERMS + term] = term;
            }
            editorCount++;
        }

        void addChange(int e, int term, int becomes) {
            made[e * MAX_TERMS + term] = becomes;
            changeCount++;
        }

        void addTown(long word, int r, int place) {
            names.add(word, TOWN_NAME, townCount);
            townReach[townCount] = r;
            townAt[townCount] = place;
            tastes[townCount] = 0;
            townCount++;
        }

        void addTaste(int t, int term) {
            tastes[t] |= 1 << term;
            tasteCount++;
        }

        int madeBy(int e, int term) {
            return made[e * MAX_TERMS + term];
        }

        boolean likes(int t, int term) {
            return (tastes[t] >>> term & 1) == 1;
        }

        int saidOn(int r, int day) {
            int many = saidCounts[r];
            return many > 0 ? saidTerms[r * MAX_SAID + day % many] : NONE;
        }

        int editorOn(int r, int place) {
            for (int e = 0; e < editorCount; e++) {
                if (editorReach[e] == r && editorAt[e] == place) {
                    return e;
                }
            }
            return NONE;
        }

        int ownTown(int e) {
            int nearest = NONE;
            for (int t = 0; t < townCount; t++) {
                boolean below = townReach[t] == editorReach[e] && townAt[t] >= editorAt[e];
                if (below && (nearest == NONE || townAt[t] < townAt[nearest])) {
                    nearest = t;
                }
            }
            return nearest;
        }

        int daysBetween(int r, int place, int t) {
            int days = -place;
            int on = r;
            for (int step = 0; step < MAX_REACHES && on != NONE; step++) {
                if (on == townReach[t]) {
                    int whole = days + townAt[t];
                    return whole < 0 ? NONE : whole;
                }
                days += lengths[on];
                on = into[on];
            }
            return NONE;
        }

        /** A REACH flows into one with a lesser number, so one way through them finds all. */
        int reachesAbove(int t) {
            int bits = 1 << townReach[t];
            for (int r = 0; r < reachCount; r++) {
                if (into[r] != NONE && (bits >>> into[r] & 1) == 1) {
                    bits |= 1 << r;
                }
            }
            return bits;
        }

        int oneSource(int t) {
            int bits = reachesAbove(t);
            int found = NONE;
            for (int r = 0; r < reachCount; r++) {
                if ((bits >>> r & 1) == 1) {
                    if (inflows[r] > 1) {
                        return NONE;
                    }
                    if (saidCounts[r] > 0) {
                        found = r;
                    }
                }
            }
            return found;
        }

        /** What a TOWN with ONE SOURCE reads of a TERM that is said there. */
        int arrival(int t, int term, int awake) {
            int on = oneSource(t);
            int arriving = term;
            for (int step = 0; step < MAX_REACHES && on != NONE; step++) {
                if (on == townReach[t]) {
                    return afterEditors(on, townAt[t], arriving, awake);
                }
                arriving = afterEditors(on, lengths[on] - 1, arriving, awake);
                on = into[on];
            }
            return NONE;
        }

        private int afterEditors(int r, int lastPlace, int term, int awake) {
            int left = term;
            for (int place = 0; place <= lastPlace && left != NONE; place++) {
                int e = editorOn(r, place);
                if (e != NONE && (awake >>> e & 1) == 1) {
                    left = madeBy(e, left);
                }
            }
            return left;
        }
    }

    private static final class CountryReader {
        final Tape tape;
        Country land;
        int lines;
        long newName;
        int onReach;
        int who;
        int term;

        CountryReader(Tape tape, Country land) {
            this.tape = tape;
            this.land = land;
        }

        boolean readInto(Country fresh) {
            land = fresh;
            land.clear();
            lines = 0;
            for (int i = 0; i < COUNTRY_BYTES; i++) {
                if (tape.kind == END) {
                    return true;
                }
                if (!readLine() || !tape.passes(';')) {
                    return false;
                }
                lines++;
            }
            return tape.fail(NO_TOKEN);
        }

        private boolean readLine() {
            switch (tape.key) {
                case W_NOUN:
                case W_VERB:
                case W_LIKE:
                case W_STOP: return readTerm(tape.key);
                case W_REACH: return readReach();
                case W_SAYS: return readSays();
                case W_EDITOR: return readEditor();
                case W_STRIKE: return readChange(false);
                case W_TURN: return readChange(true);
                case W_TOWN: return readTown();
                case W_TASTE: return readTaste();
                default: return tape.fail(NO_TOKEN);
            }
        }

        private boolean begins(int soFar, int most) {
            if (soFar >= most) {
                return tape.fail(TOO_MANY);
            }
            tape.advance();
            return true;
        }

        private boolean readNewName() {
            if (!tape.isNewName(land.names)) {
                return false;
            }
            newName = tape.word;
            tape.advance();
            return true;
        }

        private boolean readNewNameOnReach() {
            if (!readNewName()) {
                return false;
            }
            onReach = tape.toldName(land.names, REACH_NAME);
            if (onReach == NONE) {
                return false;
            }
            tape.advance();
            return tape.isNumber(0, land.lengths[onReach] - 1);
        }

        private boolean readTerm(int sort) {
            if (!begins(land.termCount, MAX_TERMS) || !readNewName()) {
                return false;
            }
            land.addTerm(newName, sort);
            return true;
        }

        private boolean readReach() {
            if (!begins(land.reachCount, MAX_REACHES) || !readNewName() || !tape.isNumber(1, MAX_LENGTH)) {
                return false;
            }
            int length = tape.number;
            int target = NONE;
            tape.advance();
            if (tape.key == W_INTO) {
                tape.advance();
                target = tape.toldName(land.names, REACH_NAME);
                if (target == NONE) {
                    return false;
                }
                if (land.saidCounts[target] > 0) {
                    return tape.fail(WRONG_NAME);
                }
                tape.advance();
            }
            land.addReach(newName, length, target);
            return true;
        }

        private boolean readSays() {
            tape.advance();
            int r = tape.toldName(land.names, REACH_NAME);
            if (r == NONE) {
                return false;
            }
            if (land.saidCounts[r] > 0 || land.inflows[r] > 0) {
                return tape.fail(WRONG_NAME);
            }
            tape.advance();
            for (int i = 0; i <= MAX_SAID; i++) {
                if (i > 0 && tape.kind == ';') {
                    return true;
                }
                int term = tape.toldName(land.names, TERM_NAME);
                if (term == NONE) {
                    return false;
                }
                if (i < MAX_SAID) {
                    land.addSaid(r, term);
                    tape.advance();
                }
            }
            return tape.fail(TOO_MANY);
        }

        private boolean readEditor() {
            if (!begins(land.editorCount, MAX_EDITORS) || !readNewNameOnReach()) {
                return false;
            }
            if (land.editorOn(onReach, tape.number) != NONE) {
                return tape.fail(WRONG_NAME);
            }
            land.addEditor(newName, onReach, tape.number);
            tape.advance();
            return true;
        }

        /** Somebody's NAME and a TERM's behind it, at which the tape stays for a FAULT of both. */
        private boolean readWhoAndTerm(int sortOfWho) {
            who = tape.toldName(land.names, sortOfWho);
            if (who == NONE) {
                return false;
            }
            tape.advance();
            term = tape.toldName(land.names, TERM_NAME);
            return term != NONE;
        }

        private boolean readChange(boolean turns) {
            if (!begins(land.changeCount, MAX_CHANGES) || !readWhoAndTerm(EDITOR_NAME)) {
                return false;
            }
            if (land.madeBy(who, term) != term) {
                return tape.fail(WRONG_NAME);
            }
            tape.advance();
            int becomes = NONE;
            if (turns) {
                becomes = tape.toldName(land.names, TERM_NAME);
                if (becomes == NONE) {
                    return false;
                }
                if (becomes == term) {
                    return tape.fail(WRONG_NAME);
                }
                tape.advance();
            }
            land.addChange(who, term, becomes);
            return true;
        }

        private boolean readTown() {
            if (!begins(land.townCount, MAX_TOWNS) || !readNewNameOnReach()) {
                return false;
            }
            land.addTown(newName, onReach, tape.number);
            tape.advance();
            return true;
        }

        private boolean readTaste() {
            if (!begins(land.tasteCount, MAX_TASTES) || !readWhoAndTerm(TOWN_NAME)) {
                return false;
            }
            if (land.likes(who, term)) {
                return tape.fail(WRONG_NAME);
            }
            land.addTaste(who, term);
            tape.advance();
            return true;
        }
    }

    /** All that is so in a COUNTRY, DAY by DAY. */
    private static final class Stream {
        final int[] cells = new int[MAX_REACHES * MAX_LENGTH];
        final int[] leaving = new int[MAX_REACHES];
        final int[] struck = new int[MAX_EDITORS];
        final int[] turned = new int[MAX_EDITORS];
        final int[] lastRead = new int[MAX_TOWNS];
        final int[] wordsRead = new int[MAX_TOWNS];
        final int[] likedRead = new int[MAX_TOWNS];
        final int[] firstRead = new int[MAX_TOWNS];
        final int[] senseState = new int[MAX_TOWNS];
        final int[] brokenOn = new int[MAX_TOWNS];
        final int[] wholeSayings = new int[MAX_TOWNS];
        final int[] history;
        int day;
        int awake;
        int clashCount;
        int seaCount;

        /** A stream that is only tried, or kept to be undone, needs no history of its own (0). */
        Stream(int daysOfHistory) {
            history = new int[daysOfHistory > 0 ? daysOfHistory : 0];
            begin(0);
        }

        void begin(int editors) {
            Arrays.fill(cells, NONE);
            Arrays.fill(struck, 0);
            Arrays.fill(turned, 0);
            Arrays.fill(lastRead, NONE);
            Arrays.fill(wordsRead, 0);
            Arrays.fill(likedRead, 0);
            Arrays.fill(firstRead, NONE);
            Arrays.fill(senseState, 0);
            Arrays.fill(brokenOn, NONE);
            Arrays.fill(wholeSayings, 0);
            day = 0;
            awake = (1 << editors) - 1;
            clashCount = 0;
            seaCount = 0;
        }

        /** Without a history on both sides its own stays: DAYS ahead of an undone act are as they were. */
        void copyFrom(Stream other) {
            System.arraycopy(other.cells, 0, cells, 0, MAX_REACHES * MAX_LENGTH);
            System.arraycopy(other.struck, 0, struck, 0, MAX_EDITORS);
            System.arraycopy(other.turned, 0, turned, 0, MAX_EDITORS);
            System.arraycopy(other.lastRead, 0, lastRead, 0, MAX_TOWNS);
            System.arraycopy(other.wordsRead, 0, wordsRead, 0, MAX_TOWNS);
            System.arraycopy(other.likedRead, 0, likedRead, 0, MAX_TOWNS);
            System.arraycopy(other.firstRead, 0, firstRead, 0, MAX_TOWNS);
            System.arraycopy(other.senseState, 0, senseState, 0, MAX_TOWNS);
            System.arraycopy(other.brokenOn, 0, brokenOn, 0, MAX_TOWNS);
            System.arraycopy(other.wholeSayings, 0, wholeSayings, 0, MAX_TOWNS);
            System.arraycopy(other.history, 0, history, 0, Math.min(history.length, other.history.length));
            day = other.day;
            awake = other.awake;
            clashCount = other.clashCount;
            seaCount = other.seaCount;
        }

        int daysLeft() {
            return ALL_DAYS - day;
        }

        boolean isAwake(int e) {
            return (awake >>> e & 1) == 1;
        }

        void toggle(int e) {
            awake ^= 1 << e;
        }

        int onTheirWay() {
            int terms = 0;
            for (int cell : cells) {
                if (cell != NONE) {
                    terms++;
                }
            }
            return terms;
        }

        /** A TERM keeps its cell while it goes down a REACH; the PLACES go round instead, so a DAY moves no rows. */
        private int cellOf(Country land, int r, int place) {
            int length = land.lengths[r];
            if (length <= 0) {
                return 0;
            }
            int round = place - day % length;
            return r * MAX_LENGTH + (round < 0 ? round + length : round);
        }

        int termAt(Country land, int r, int place) {
            return cells[cellOf(land, r, place)];
        }

        void put(Country land, int r, int place, int term) {
            cells[cellOf(land, r, place)] = term;
        }

        int readOn(int t, int onDay) {
            return (history[onDay] >>> t * READ_BITS & READ_MASK) - 1;
        }

        void pass(Country land, int n) {
            int left = Math.min(n, daysLeft());
            for (int i = 0; i < left; i++) {
                passDay(land);
            }
        }

        void passDrawnDay(Country land, Dice dice) {
            if (dice.draw(STONE_CHANCE) == 0) {
                int r = dice.draw(land.reachCount);
                int place = dice.draw(land.lengths[r]);
                int term = dice.draw(land.termCount + 1);
                put(land, r, place, land.hasTerm(term) ? term : NONE);
                dice.stonesThrown++;
            }
            passDay(land);
        }

        void passDay(Country land) {
            int today = day;
            for (int r = 0; r < land.reachCount; r++) {
                // the last PLACE's cell is the first one's from tomorrow on
                int cell = cellOf(land, r, land.lengths[r] - 1);
                leaving[r] = cells[cell];
                cells[cell] = land.saidOn(r, today);
            }
            day++;
            for (int r = 0; r < land.reachCount; r++) {
                if (leaving[r] != NONE) {
                    carry(land, leaving[r], land.into[r]);
                }
            }
            for (int e = 0; e < land.editorCount; e++) {
                if (isAwake(e)) {
                    edit(land, e);
                }
            }
            readInTowns(land, today);
        }

        private void carry(Country land, int term, int target) {
            if (target == NONE) {
                seaCount++;
                return;
            }
            int ahead = termAt(land, target, 0);
            if (ahead == NONE) {
                put(land, target, 0, term);
            } else if (ahead != term) {
                clashCount++;
            }
        }

        private void edit(Country land, int e) {
            int cell = cellOf(land, land.editorReach[e], land.editorAt[e]);
            int term = cells[cell];
            if (term == NONE) {
                return;
            }
            int becomes = land.madeBy(e, term);
            if (becomes == NONE) {
                struck[e]++;
            } else if (becomes != term) {
                turned[e]++;
            }
            cells[cell] = becomes;
        }

        private void readInTowns(Country land, int today) {
            int packed = 0;
            for (int t = 0; t < land.townCount; t++) {
                int term = termAt(land, land.townReach[t], land.townAt[t]);
                lastRead[t] = term;
                packed |= term + 1 << t * READ_BITS;
                if (term != NONE) {
                    noteTerm(land, t, term, today);
                }
            }
            if (today < history.length) {
                history[today] = packed;
            }
        }

        private void noteTerm(Country land, int t, int term, int today) {
            wordsRead[t]++;
            if (land.likes(t, term)) {
                likedRead[t]++;
            }
            if (firstRead[t] == NONE) {
                firstRead[t] = today;
            }
            if (brokenOn[t] == NONE) {
                goOnSaying(t, land.sorts[term], today);
            }
        }

        private void goOnSaying(int t, int sort, int today) {
            int next = SENSE_STEPS[senseState[t] * SORTS + sort];
            if (next == NONE) {
                brokenOn[t] = today;
                return;
            }
            senseState[t] = next;
            if (sort == W_STOP) {
                wholeSayings[t]++;
            }
        }
    }

    private static final class Dice {
        int x;
        int stonesThrown;

        void begin(int seed) {
            x = seed;
            stonesThrown = 0;
        }

        int draw(int n) {
            x = x * 1103515245 + 12345;
            return n > 0 ? (x >>> 8) % n : 0;
        }
    }

    /** How all was ahead of each of the latest acts. */
    private static final class Acts {
        final Stream[] before = new Stream[KEPT_ACTS];
        int size;

        Acts() {
            for (int i = 0; i < KEPT_ACTS; i++) {
                before[i] = new Stream(0);
            }
        }

        void clear() {
            size = 0;
        }

        void keep(Stream stream) {
            if (size >= KEPT_ACTS) {
                forgetOldest();
            }
            before[size].copyFrom(stream);
            size++;
        }

        private void forgetOldest() {
            Stream oldest = before[0];
            for (int i = 1; i < KEPT_ACTS; i++) {
                before[i - 1] = before[i];
            }
            before[KEPT_ACTS - 1] = oldest;
            size = KEPT_ACTS - 1;
        }

        boolean giveBack(Stream stream) {
            if (size == 0) {
                return false;
            }
            size--;
            stream.copyFrom(before[size]);
            return true;
        }
    }

    /** A SENTENCE, each part behind those that it joins; without ONES there is none. */
    private static final class Sentence {
        final int[] parts = new int[MAX_ONES * 2];
        final int[] signs = new int[MAX_ONES * 2];
        final int[] numbers = new int[MAX_ONES * 2];
        int size;
        int ones;

        void clear() {
            size = 0;
            ones = 0;
        }

        void copyFrom(Sentence other) {
            System.arraycopy(other.parts, 0, parts, 0, parts.length);
            System.arraycopy(other.signs, 0, signs, 0, signs.length);
            System.arraycopy(other.numbers, 0, numbers, 0, numbers.length);
            size = other.size;
            ones = other.ones;
        }

        boolean readFrom(Tape tape, Names names) {
            clear();
            if (!readCond(tape, names, 0)) {
                return false;
            }
            return tape.kind == END || tape.fail(NO_TOKEN);
        }

        private boolean readCond(Tape tape, Names names, int around) {
            boolean good = readAll(tape, names, around);
            for (int i = 0; i < MAX_ONES && good && tape.key == W_OR; i++) {
                tape.advance();
                good = readAll(tape, names, around) && add(W_OR, 0, 0);
            }
            return good;
        }

        private boolean readAll(Tape tape, Names names, int around) {
            boolean good = readOne(tape, names, around);
            for (int i = 0; i < MAX_ONES && good && tape.key == W_AND; i++) {
                tape.advance();
                good = readOne(tape, names, around) && add(W_AND, 0, 0);
            }
            return good;
        }

        private boolean readOne(Tape tape, Names names, int around) {
            boolean bracket = tape.kind == '(';
            int part = tape.key;
            if (!bracket && !beginsOne(part)) {
                return tape.fail(NO_TOKEN);
            }
            if (ones >= MAX_ONES || around >= MAX_WITHIN) {
                return tape.fail(TOO_MANY);
            }
            ones++;
            tape.advance();
            if (bracket) {
                return readCond(tape, names, around + 1) && tape.passes(')');
            }
            switch (part) {
                case W_NOT: return readOne(tape, names, around + 1) && add(W_NOT, 0, 0);
                case W_READS: return addNamed(tape, part, tape.toldName(names, TERM_NAME));
                case W_ON: return addNamed(tape, part, tape.toldName(names, REACH_NAME));
                case W_SENSE: return add(W_SENSE, 0, 0);
                default: return readMeasure(tape, part);
            }
        }

        private static boolean beginsOne(int key) {
            return key == W_NOT || key == W_READS || key >= W_ON && key <= W_NUMBER;
        }

        private boolean addNamed(Tape tape, int part, int number) {
            if (number == NONE) {
                return false;
            }
            tape.advance();
            return add(part, 0, number);
        }

        private boolean readMeasure(Tape tape, int part) {
            int sign = tape.kind;
            if (sign != '<' && sign != '=' && sign != '>') {
                return tape.fail(NO_TOKEN);
            }
            tape.advance();
            if (tape.kind != NUMBER) {
                return tape.fail(NO_TOKEN);
            }
            add(part, sign, tape.number);
            tape.advance();
            return true;
        }

        private boolean add(int part, int sign, int number) {
            if (size >= parts.length) {
                return false;
            }
            parts[size] = part;
            signs[size] = sign;
            numbers[size] = number;
            size++;
            return true;
        }

        boolean holdsOf(Country land, Stream stream, int t) {
            // a stack of truths, a bit each, the latest lowest: twenty ONES fit
            int truths = 0;
            for (int i = 0; i < size; i++) {
                int latest = truths & 1;
                switch (parts[i]) {
                    case W_NOT:
                        truths ^= 1;
                        break;
                    case W_AND:
                        truths = truths >>> 1 & (latest | ~1);
                        break;
                    case W_OR:
                        truths = truths >>> 1 | latest;
                        break;
                    default:
                        truths = truths << 1 | (isSo(land, stream, t, i) ? 1 : 0);
                }
            }
            return (truths & 1) == 1;
        }

        private boolean isSo(Country land, Stream stream, int t, int i) {
            switch (parts[i]) {
                case W_READS: return stream.lastRead[t] == numbers[i];
                case W_ON: return land.townReach[t] == numbers[i];
                case W_SENSE: return stream.brokenOn[t] == NONE;
                case W_AT: return compares(land.townAt[t], i);
                case W_WORDS: return compares(stream.wordsRead[t], i);
                case W_LIKED: return compares(stream.likedRead[t], i);
                default: return compares(t, i);
            }
        }

        private boolean compares(int measured, int i) {
            switch (signs[i]) {
                case '<': return measured < numbers[i];
                case '>': return measured > numbers[i];
                default: return measured == numbers[i];
            }
        }
    }

    private static final class Daybook {
        final int[] verbs = new int[MAX_BOOK_LINES];
        final int[] subjects = new int[MAX_BOOK_LINES];
        final int[] objects = new int[MAX_BOOK_LINES];
        int size;
        boolean isJudged;
        int why;
        int linesAhead;
        int dayThen;
        int clashesIn;

        boolean readFrom(Tape tape, Names names) {
            size = 0;
            for (int i = 0; i <= MAX_BOOK_LINES; i++) {
                if (tape.kind == END) {
                    return true;
                }
                if (!readLine(tape, names) || !tape.passes(';')) {
                    return false;
                }
            }
            return tape.fail(TOO_MANY);
        }

        private boolean readLine(Tape tape, Names names) {
            int sort = NONE;
            int subject = NONE;
            boolean isDay = tape.key == W_DAY;
            if (!isDay) {
                if (!tape.isName()) {
                    return tape.fail(NO_TOKEN);
                }
                int index = names.find(tape.word);
                if (index == NONE || names.sorts[index] < EDITOR_NAME) {
                    return tape.fail(WRONG_NAME);
                }
                sort = names.sorts[index];
                subject = names.numbers[index];
            }
            if (size >= MAX_BOOK_LINES) {
                return tape.fail(TOO_MANY);
            }
            tape.advance();
            if (isDay) {
                return readDays(tape);
            }
            return sort == TOWN_NAME ? readReads(tape, names, subject) : readAwake(tape, subject);
        }

        private boolean readDays(Tape tape) {
            if (!tape.isNumber(1, MOST_DAYS)) {
                return false;
            }
            return add(tape, W_DAY, NONE, tape.number);
        }

        private boolean readReads(Tape tape, Names names, int town) {
            if (tape.key != W_READS) {
                return tape.fail(NO_TOKEN);
            }
            tape.advance();
            if (tape.key == W_NONE) {
                return add(tape, W_READS, town, NONE);
            }
            int term = tape.toldName(names, TERM_NAME);
            return term != NONE && add(tape, W_READS, town, term);
        }

        private boolean readAwake(Tape tape, int editor) {
            if (tape.key != W_WAKES && tape.key != W_SLEEPS) {
                return tape.fail(NO_TOKEN);
            }
            return add(tape, tape.key, editor, NONE);
        }

        private boolean add(Tape tape, int verb, int subject, int object) {
            verbs[size] = verb;
            subjects[size] = subject;
            objects[size] = object;
            size++;
            tape.advance();
            return true;
        }

        /** Lives it in this stream as far as it is not WRONG: the LINE that is, or NONE. */
        int judge(Country land, Stream stream) {
            int clashesBefore = stream.clashCount;
            why = 0;
            linesAhead = 0;
            for (int i = 0; i < size && why == 0; i++) {
                why = live(land, stream, i);
                if (why == 0) {
                    linesAhead++;
                }
            }
            dayThen = stream.day;
            clashesIn = stream.clashCount - clashesBefore;
            isJudged = true;
            return why == 0 ? NONE : linesAhead;
        }

        private int live(Country land, Stream stream, int i) {
            int subject = subjects[i];
            if (verbs[i] == W_DAY) {
                if (objects[i] > stream.daysLeft()) {
                    return FEWER_DAYS;
                }
                stream.pass(land, objects[i]);
                return 0;
            }
            if (verbs[i] == W_READS) {
                return stream.lastRead[subject] == objects[i] ? 0 : READ_ELSE;
            }
            if (stream.isAwake(subject) == (verbs[i] == W_WAKES)) {
                return SO_ALREADY;
            }
            stream.toggle(subject);
            return 0;
        }

        int tell(int what) {
            if (!isJudged) {
                return NONE;
            }
            switch (what) {
                case 0: return why;
                case 1: return linesAhead;
                case 2: return dayThen;
                case 3: return clashesIn;
                default: return NONE;
            }
        }
    }

    private static final class Image {
        final Country land = new Country();
        final Stream stream = new Stream(ALL_DAYS);
        final Sentence rule = new Sentence();
        boolean isKept;
    }
}
