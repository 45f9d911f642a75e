import java.util.NoSuchElementException;

/**
 * A county of persons who sit in saddles girthed on one another.
 * The words in capitals are those of the document, and so are the answers to what is refused.
 */
public final class SaddlerKnows {
    public static final int NONE = -1;
    public static final int HIDDEN = -1000000;

    private static final int PEOPLE = 6;
    private static final int PLACES = 8;
    private static final int FIT_COUNT = 10;
    private static final int TAPE_BYTES = 240;
    private static final int MOST_LAWS = 4;
    private static final int MOST_NESTED = 6;
    private static final int MOST_ACTS = 40;
    private static final int MOST_SEEN = 10;
    private static final int MOST_LOGGED = 60;
    private static final int MOST_WEEKS = 60;
    private static final int LAST_WEEK = 999;
    private static final int MOST_COINS = 999;
    private static final int MOST_GALL = 99;
    private static final int MOST_PINCH = 30;
    private static final int MOST_GIVEN = 50;
    private static final int MOST_SHARED = 999;
    private static final int MOST_WAITED = 9;
    private static final int MOST_SEEN_WEEKS = 9;
    private static final int MOST_BORNE_WEEKS = 30;
    private static final int MOST_THROWING_WEEKS = 99;
    private static final int MOST_ODDS_WEEKS = 6;
    private static final int ALL_PARTS = 1000000000;
    private static final int HUNDRED = 100;
    private static final int MAKING_COINS = 3;
    private static final int SALVING_COINS = 2;
    private static final int SALVED_GALL = 5;
    private static final int HIGHEST_NUMBER = 1000000;

    private static final int COUNTY = 0;
    private static final int LAW = 1;
    private static final int NO_SUCH_SORT = -2;

    private static final int NO_SUCH_ONE = 0;
    private static final int OUT_OF_BOUNDS = 1;
    private static final int SO_ALREADY = 2;
    private static final int TOO_FEW = 3;
    private static final int TOO_LATE = 4;

    private final Tape tape = new Tape();
    private final CountyReader countyReader = new CountyReader(tape);
    private final LawReader lawReader = new LawReader(tape);
    private final Told told = new Told();
    private final Pinches pinches = new Pinches(told);
    private final Stand now = new Stand();
    private final Past past = new Past();
    private final Seeing seeing = new Seeing(told, pinches);
    private final Stitching stitching = new Stitching(pinches);
    private final Seating seating = new Seating(told, pinches);
    private final int[] refusals = new int[5];
    private int restBelow = 2;
    private long drawn;

    public SaddlerKnows() {
    }

    // ---- the tape and its texts ----

    public int feed(int a, int b, int c, int d, int e) {
        int more = Tape.bytesOf(a) + Tape.bytesOf(b) + Tape.bytesOf(c) + Tape.bytesOf(d) + Tape.bytesOf(e);
        if (tape.length + more > TAPE_BYTES) {
            return NONE;
        }
        tape.append(a);
        tape.append(b);
        tape.append(c);
        tape.append(d);
        tape.append(e);
        return tape.length;
    }

    public boolean end(int n) {
        if (n < 0 || n > tape.length) {
            return false;
        }
        tape.length = n;
        return true;
    }

    public int fault(int sort) {
        if (sort == COUNTY) {
            return countyReader.firstFault();
        }
        return sort == LAW ? lawReader.firstFault() : NO_SUCH_SORT;
    }

    public int text(int sort) {
        if (sort == COUNTY) {
            return takeCounty();
        }
        return sort == LAW ? takeLaw() : NONE;
    }

    private int takeCounty() {
        if (countyReader.firstFault() != NONE) {
            return NONE;
        }
        told.copy(countyReader.draft);
        now.begin(told);
        past.forget();
        seeing.kept = 0;
        tape.length = 0;
        return told.persons;
    }

    private int takeLaw() {
        if (pinches.lawCount >= MOST_LAWS || lawReader.firstFault() != NONE) {
            return NONE;
        }
        pinches.addLaw(new Law(lawReader.code, lawReader.used));
        tape.length = 0;
        return pinches.lawCount - 1;
    }

    // ---- what is told and how it stands ----

    public int rule(int what) {
        if (!hasCounty()) {
            return NONE;
        }
        if (what == 0) {
            return told.heals;
        }
        return what == 1 ? now.coins : NONE;
    }

    public int person(int person, int what) throws NoSuchElementException {
        if (!isPerson(person)) {
            throw new NoSuchElementException();
        }
        switch (what) {
            case 0:
                return at(told.strength, person);
            case 1:
                return at(told.breadth, person);
            case 2:
                return at(told.temper, person);
            case 3:
                return at(now.gall, person);
            case 4:
                return pinches.loadNow(now, person);
            case 5:
                return now.above(person);
            default:
                throw new NoSuchElementException();
        }
    }

    public int saddle(int at, int what) {
        if (!now.isSaddle(at)) {
            return NONE;
        }
        switch (what) {
            case 0:
                return at(now.who, at);
            case 1:
                return at(now.under, at);
            case 2:
                return at(now.fit, at);
            case 3:
                return pinches.inPlace(now, at);
            default:
                return NONE;
        }
    }

    public boolean law(int law) {
        if (law != NONE && (law < 0 || law >= pinches.lawCount)) {
            return false;
        }
        pinches.holding = law;
        return true;
    }

    public int limit(int person) {
        return isPerson(person) ? told.limitOf(person) : NONE;
    }

    public int log(int i, int what) {
        if (i < 0 || i >= loggedWeeks()) {
            return NONE;
        }
        return past.entry(now.week - 1 - i, what);
    }

    public int count(int what) {
        switch (what) {
            case 0:
                return told.persons;
            case 1:
                return told.saddles;
            case 2:
                return pinches.lawCount;
            case 3:
                return tape.length;
            case 4:
                return pinches.holding;
            case 5:
                return now.week;
            case 6:
                return now.saddleCount();
            case 7:
                return restBelow;
            case 8:
                return seeing.kept;
            case 9:
                return loggedWeeks();
            case 10:
                return past.kept;
            default:
                return HIDDEN;
        }
    }

    // ---- acts by hand ----

    public int weeks(int n) {
        if (!hasCounty()) {
            return refused(NO_SUCH_ONE);
        }
        if (n < 1 || n > MOST_WEEKS) {
            return refused(OUT_OF_BOUNDS);
        }
        if (now.week + n > LAST_WEEK) {
            return refused(TOO_LATE);
        }
        for (int k = 0; k < n; k++) {
            past.keep(now);
            passWeek();
        }
        return now.week;
    }

    public int makes(int one, int other, int fit) {
        if (!isPerson(one) || !isPerson(other)) {
            return refused(NO_SUCH_ONE);
        }
        if (one == other || !isFit(fit)) {
            return refused(OUT_OF_BOUNDS);
        }
        if (now.placeOf(one, other) != NONE) {
            return refused(SO_ALREADY);
        }
        int place = now.freePlace();
        if (now.coins < MAKING_COINS || place == NONE) {
            return refused(TOO_FEW);
        }
        past.keep(now);
        now.coins -= MAKING_COINS;
        now.girth(place, one, other, fit);
        return place;
    }

    public int stitch(int at, int fit) {
        if (!now.isSaddle(at)) {
            return refused(NO_SUCH_ONE);
        }
        if (!isFit(fit)) {
            return refused(OUT_OF_BOUNDS);
        }
        int was = at(now.fit, at);
        if (was == fit) {
            return refused(SO_ALREADY);
        }
        int cost = Math.abs(was - fit);
        if (now.coins < cost) {
            return refused(TOO_FEW);
        }
        past.keep(now);
        now.coins -= cost;
        put(now.fit, at, fit);
        return was;
    }

    public int off(int at) {
        if (!now.isSaddle(at)) {
            return refused(NO_SUCH_ONE);
        }
        past.keep(now);
        now.ungirth(at);
        return now.saddleCount();
    }

    public int salve(int person) {
        if (!isPerson(person)) {
            return refused(NO_SUCH_ONE);
        }
        int gall = at(now.gall, person);
        if (gall == 0) {
            return refused(SO_ALREADY);
        }
        if (now.coins < SALVING_COINS) {
            return refused(TOO_FEW);
        }
        past.keep(now);
        now.coins -= SALVING_COINS;
        int left = Math.max(0, gall - SALVED_GALL);
        put(now.gall, person, left);
        return left;
    }

    public int give(int n) {
        if (!hasCounty()) {
            return refused(NO_SUCH_ONE);
        }
        if (n < 1 || n > MOST_GIVEN || now.coins + n > MOST_COINS) {
            return refused(OUT_OF_BOUNDS);
        }
        past.keep(now);
        now.coins += n;
        return now.coins;
    }

    public int status(int what) {
        return what >= 0 && what < refusals.length ? refusals[what] : NONE;
    }

    public int undo() {
        return past.takeBack(now) ? past.kept : NONE;
    }

    // ---- years by draws, images ----

    public boolean rest(int v) {
        if (v < 0 || v > 9 || v == restBelow) {
            return false;
        }
        restBelow = v;
        return true;
    }

    public int years(int n, long seed) {
        if (!hasCounty() || n < 1 || n > MOST_WEEKS || now.week + n > LAST_WEEK) {
            return NONE;
        }
        drawn = seed;
        for (int k = 0; k < n; k++) {
            past.keep(now);
            drawAhead();
            passWeek();
        }
        return now.week;
    }

    public int image() {
        if (!hasCounty()) {
            return NONE;
        }
        past.takeImage(now);
        return now.week;
    }

    public int back() {
        return past.goBack(now) ? now.week : NONE;
    }

    // ---- what is asked ----

    public int pinch(int one, int other, int fit) {
        if (!arePair(one, other) || !isFit(fit)) {
            return NONE;
        }
        return pinches.wereIt(now, one, other, fit);
    }

    public int best(int at, int what) {
        if (!now.isSaddle(at)) {
            return NONE;
        }
        int one = at(now.who, at);
        int other = at(now.under, at);
        int fit = pinches.bestFit(now, one, other);
        if (what == 0) {
            return fit;
        }
        return what == 1 ? pinches.wereIt(now, one, other, fit) : NONE;
    }

    public int throwing(int person) {
        return isPerson(person) ? pinches.firstThrow(now, person, MOST_THROWING_WEEKS) : NONE;
    }

    public int bears(int person, int n, int what) {
        if (!isPerson(person) || n < 1 || n > MOST_BORNE_WEEKS) {
            return NONE;
        }
        if (what != 0 && what != 1) {
            return NONE;
        }
        stitching.search(now, person, n);
        return what == 0 ? stitching.leastCoins : stitching.leastFits;
    }

    public int ring() {
        int fewest = NONE;
        for (int p = 0; p < told.persons; p++) {
            int length = now.ridesBetween(p, p);
            if (length != NONE && (fewest == NONE || length < fewest)) {
                fewest = length;
            }
        }
        return fewest;
    }

    public int chain(int from, int to) {
        if (!isPerson(from) || !isPerson(to)) {
            return NONE;
        }
        return from == to ? 0 : now.ridesBetween(from, to);
    }

    public int seats(int what) {
        if (!hasCounty() || what != 0 && what != 1) {
            return NONE;
        }
        seating.search(now);
        return what == 0 ? seating.leastRow : seating.leastPinch;
    }

    public int seen(int person, int n, int v, boolean more) {
        if (!isPerson(person) || n < 1 || n > MOST_SEEN_WEEKS || v < 0 || v > MOST_GALL) {
            return NONE;
        }
        return seeing.add(person, n, v, more) ? seeing.kept : NONE;
    }

    public int fits(int told, int i) {
        if (!isToldSaddle(told)) {
            return NONE;
        }
        seeing.tryFits(told, 0);
        return seeing.fitting(i);
    }

    public int ask(int told, int n) {
        if (!isToldSaddle(told) || n < 1 || n > MOST_SEEN_WEEKS) {
            return NONE;
        }
        seeing.tryFits(told, n);
        return seeing.fairestMark();
    }

    public int waiting(int one, int other, int x, int y, int what) {
        if (!arePair(one, other) || what != 0 && what != 1) {
            return HIDDEN;
        }
        if (x < 0 || x > MOST_WAITED || y < 0 || y > MOST_WAITED) {
            return HIDDEN;
        }
        return what == 0 ? told.waitsFor(one, other, x, y) : told.waitsFor(other, one, y, x);
    }

    public int rests(int one, int other, int i) {
        if (!arePair(one, other) || i < NONE) {
            return NONE;
        }
        int found = 0;
        for (int x = 0; x <= MOST_WAITED; x++) {
            for (int y = 0; y <= MOST_WAITED; y++) {
                if (told.waitsBest(one, other, x, y) && told.waitsBest(other, one, y, x)) {
                    if (found == i) {
                        return 10 * x + y;
                    }
                    found++;
                }
            }
        }
        return i == NONE ? found : NONE;
    }

    public int odds(int person, int n, int chance) {
        if (!isPerson(person) || n < 0 || n > MOST_ODDS_WEEKS || chance < 0 || chance > HUNDRED) {
            return NONE;
        }
        if (!now.bearsAny(person)) {
            return 0;
        }
        return partsThrown(person, n, chance, at(now.gall, person), now.week, ALL_PARTS);
    }

    public int shares(int person, int c) {
        if (!isPerson(person) || c < 0 || c > MOST_SHARED) {
            return NONE;
        }
        int all = now.allGall();
        return all > 0 ? c * at(now.gall, person) / all : 0;
    }

    public int most(int what) {
        if (!hasCounty()) {
            return NONE;
        }
        if (what >= 0 && what <= 5) {
            return foremost(what);
        }
        switch (what) {
            case 6:
                return tightest();
            case 7:
                return freePeople();
            case 8:
                return freePeople() & now.sittingPeople();
            case 9:
                return throwingNext();
            case 10:
                return now.saddlePlaces();
            case 11:
                return now.allGall();
            case 12:
                return peopleInRings();
            case 13:
                return sidePairs();
            default:
                return NONE;
        }
    }

    // ---- helpers of the acts ----

    private int refused(int why) {
        put(refusals, why, at(refusals, why) + 1);
        return NONE;
    }

    private void passWeek() {
        int threw = pinches.pass(now);
        past.write(threw, now);
        now.coins = Math.min(MOST_COINS, now.coins + now.saddleCount());
    }

    private void drawAhead() {
        int one = draw(told.persons);
        int other = draw(told.persons);
        int fit = draw(FIT_COUNT);
        int place = now.freePlace();
        if (one != other && place != NONE && now.placeOf(one, other) == NONE) {
            now.girth(place, one, other, fit);
        }
        if (draw(10) < restBelow) {
            now.ungirth(draw(PLACES));
        }
    }

    private int draw(int j) {
        drawn = drawn * 6364136223846793005L + 1442695040888963407L;
        return j > 0 ? (int) ((drawn >>> 33) % j) : 0;
    }

    private int loggedWeeks() {
        return Math.min(MOST_LOGGED, now.week);
    }

    // ---- helpers of the questions ----

    private boolean hasCounty() {
        return told.persons > 0;
    }

    private boolean isPerson(int person) {
        return person >= 0 && person < told.persons;
    }

    private boolean arePair(int one, int other) {
        return isPerson(one) && isPerson(other) && one != other;
    }

    private boolean isToldSaddle(int number) {
        return number >= 0 && number < told.saddles;
    }

    private static boolean isFit(int fit) {
        return fit >= 0 && fit < FIT_COUNT;
    }

    /** A week splits each part into its idle share and the rest; a part in which he throws is counted whole. */
    private int partsThrown(int person, int weeksLeft, int chance, int gall, int week, int part) {
        if (weeksLeft <= 0) {
            return 0;
        }
        int idle = (int) ((long) part * chance / HUNDRED);
        int healed = Math.max(0, gall - told.heals);
        int thrown = partsThrown(person, weeksLeft - 1, chance, healed, week + 1, idle);
        int galled = pinches.galledBy(now, person, gall, week);
        if (galled >= told.limitOf(person)) {
            return thrown + part - idle;
        }
        return thrown + partsThrown(person, weeksLeft - 1, chance, galled, week + 1, part - idle);
    }

    private int foremost(int what) {
        int first = 0;
        int highest = measure(what, 0);
        for (int p = 1; p < told.persons; p++) {
            int value = measure(what, p);
            if (value > highest) {
                first = p;
                highest = value;
            }
        }
        return first;
    }

    private int measure(int what, int person) {
        switch (what) {
            case 0:
                return at(now.gall, person);
            case 1:
                return pinches.loadNow(now, person);
            case 2:
                return now.satBy(person);
            case 3:
                return at(told.strength, person);
            case 4:
                return at(told.breadth, person);
            default:
                return at(told.temper, person);
        }
    }

    private int tightest() {
        int place = NONE;
        int highest = NONE;
        for (int k = 0; k < PLACES; k++) {
            if (now.isSaddle(k) && pinches.inPlace(now, k) > highest) {
                place = k;
                highest = pinches.inPlace(now, k);
            }
        }
        return place;
    }

    private int freePeople() {
        int people = 0;
        for (int p = 0; p < told.persons; p++) {
            if (!now.bearsAny(p)) {
                people |= 1 << p;
            }
        }
        return people;
    }

    private int throwingNext() {
        int people = 0;
        for (int p = 0; p < told.persons; p++) {
            if (pinches.firstThrow(now, p, 1) != NONE) {
                people |= 1 << p;
            }
        }
        return people;
    }

    private int peopleInRings() {
        int people = 0;
        for (int p = 0; p < told.persons; p++) {
            people |= now.above(p) & 1 << p;
        }
        return people;
    }

    private int sidePairs() {
        int pairs = 0;
        for (int one = 0; one < told.persons; one++) {
            for (int other = one + 1; other < told.persons; other++) {
                if (now.placeOf(one, other) != NONE && now.placeOf(other, one) != NONE) {
                    pairs++;
                }
            }
        }
        return pairs;
    }

    // ---- rows ----

    private static int at(int[] row, int i) {
        return i >= 0 && i < row.length ? row[i] : 0;
    }

    private static void put(int[] row, int i, int value) {
        if (i >= 0 && i < row.length) {
            row[i] = value;
        }
    }

    private static void copyRow(int[] from, int[] to) {
        for (int i = 0; i < to.length && i < from.length; i++) {
            to[i] = from[i];
        }
    }

    private static boolean hasBit(int bits, int i) {
        return i >= 0 && (bits >> i & 1) == 1;
    }

    /** The bytes fed, and a mark at which a text is being read. */
    private static final class Tape {
        static final int ENDED = -1;

        int length;
        int mark;
        private final int[] bytes = new int[TAPE_BYTES];

        static int bytesOf(int number) {
            int bytes = 0;
            for (int shift = 0; shift < 32; shift += 8) {
                if ((number >>> shift & 255) != 0) {
                    bytes++;
                }
            }
            return bytes;
        }

        void append(int number) {
            for (int shift = 24; shift >= 0; shift -= 8) {
                int value = number >>> shift & 255;
                if (value != 0 && length < bytes.length) {
                    put(bytes, length, value);
                    length++;
                }
            }
        }

        /** The next sign that is no blank; the mark then stands on it, or on the length. */
        int sign() {
            while (mark >= 0 && mark < length && mark < bytes.length && bytes[mark] == ' ') {
                mark++;
            }
            return mark >= 0 && mark < length && mark < bytes.length ? bytes[mark] : ENDED;
        }

        void step() {
            mark++;
        }

        boolean takes(char wanted) {
            if (sign() != wanted) {
                return false;
            }
            mark++;
            return true;
        }

        /** NONE: no such number; the mark then stands on what is wrong. */
        int number(int mostDigits, int highest) {
            if (!isDigit(sign())) {
                return NONE;
            }
            int value = 0;
            for (int k = 0; k < mostDigits && isDigit(byteHere()); k++) {
                value = value * 10 + byteHere() - '0';
                mark++;
            }
            if (isDigit(byteHere())) {
                return NONE;
            }
            if (value > highest) {
                mark--;
                return NONE;
            }
            return value;
        }

        private int byteHere() {
            return mark >= 0 && mark < length && mark < bytes.length ? bytes[mark] : ENDED;
        }

        static boolean isDigit(int sign) {
            return sign >= '0' && sign <= '9';
        }
    }

    /** What a county's text tells. */
    private static final class Told {
        int heals;
        int coins;
        int persons;
        int saddles;
        final int[] strength = new int[PEOPLE];
        final int[] breadth = new int[PEOPLE];
        final int[] temper = new int[PEOPLE];
        final int[] who = new int[PLACES];
        final int[] under = new int[PLACES];
        final int[] fit = new int[PLACES];

        void copy(Told other) {
            heals = other.heals;
            coins = other.coins;
            persons = other.persons;
            saddles = other.saddles;
            copyRow(other.strength, strength);
            copyRow(other.breadth, breadth);
            copyRow(other.temper, temper);
            copyRow(other.who, who);
            copyRow(other.under, under);
            copyRow(other.fit, fit);
        }

        int limitOf(int person) {
            return 30 - 2 * at(temper, person);
        }

        /** Whether a text may end here. */
        boolean isWhole() {
            if (persons < 2) {
                return false;
            }
            for (int k = 0; k < saddles; k++) {
                if (at(who, k) >= persons || at(under, k) >= persons || at(who, k) == at(under, k)) {
                    return false;
                }
                if (isToldAhead(k)) {
                    return false;
                }
            }
            return true;
        }

        private boolean isToldAhead(int saddle) {
            for (int k = 0; k < saddle; k++) {
                if (at(who, k) == at(who, saddle) && at(under, k) == at(under, saddle)) {
                    return true;
                }
            }
            return false;
        }

        int waitsFor(int one, int other, int own, int others) {
            if (own > others) {
                return at(strength, other) - others;
            }
            return own < others ? 0 - own : at(temper, one) / 2 - own;
        }

        boolean waitsBest(int one, int other, int own, int others) {
            int has = waitsFor(one, other, own, others);
            for (int k = 0; k <= MOST_WAITED; k++) {
                if (waitsFor(one, other, k, others) > has) {
                    return false;
                }
            }
            return true;
        }
    }

    /** Reads the tape as a county into a draft, so that a fault leaves the county as it is. */
    private static final class CountyReader {
        private static final String RULE_LETTERS = "hk";
        private static final String PERSON_LETTERS = "sbt";
        private static final String SADDLE_LETTERS = "ruf";
        private static final int[] RULE_HIGHEST = {9, 99, 0};
        private static final int[] PERSON_HIGHEST = {9, 9, 9};
        private static final int[] SADDLE_HIGHEST = {5, 5, 9};

        final Told draft = new Told();
        private final Tape tape;
        private final int[] items = new int[3];
        private boolean rulesTold;

        CountyReader(Tape tape) {
            this.tape = tape;
        }

        int firstFault() {
            draft.persons = 0;
            draft.saddles = 0;
            rulesTold = false;
            keepRules(2, 20);
            tape.mark = 0;
            for (int k = 0; k <= TAPE_BYTES; k++) {
                if (!readsClause()) {
                    return tape.mark;
                }
                if (tape.sign() == Tape.ENDED) {
                    return draft.isWhole() ? NONE : tape.mark;
                }
                if (!tape.takes(';')) {
                    return tape.mark;
                }
            }
            return tape.mark;
        }

        private boolean readsClause() {
            switch (tape.sign()) {
                case 's':
                    return !rulesTold && readsRules();
                case 'p':
                    return draft.persons < PEOPLE && readsPerson();
                case 'l':
                    return draft.saddles < PLACES && readsSaddle();
                default:
                    return false;
            }
        }

        private boolean readsRules() {
            begin(2, 20, 0);
            if (!readsItems(RULE_LETTERS, RULE_HIGHEST)) {
                return false;
            }
            keepRules(at(items, 0), at(items, 1));
            rulesTold = true;
            return true;
        }

        private void keepRules(int heals, int coins) {
            draft.heals = heals;
            draft.coins = coins;
        }

        private boolean readsPerson() {
            begin(4, 4, 3);
            if (!readsItems(PERSON_LETTERS, PERSON_HIGHEST)) {
                return false;
            }
            put(draft.strength, draft.persons, at(items, 0));
            put(draft.breadth, draft.persons, at(items, 1));
            put(draft.temper, draft.persons, at(items, 2));
            draft.persons++;
            return true;
        }

        private boolean readsSaddle() {
            begin(0, 1, 5);
            if (!readsItems(SADDLE_LETTERS, SADDLE_HIGHEST)) {
                return false;
            }
            put(draft.who, draft.saddles, at(items, 0));
            put(draft.under, draft.saddles, at(items, 1));
            put(draft.fit, draft.saddles, at(items, 2));
            draft.saddles++;
            return true;
        }

        private void begin(int first, int second, int third) {
            tape.step();
            put(items, 0, first);
            put(items, 1, second);
            put(items, 2, third);
        }

        /** Each letter comes once at most, so the last round always ends it. */
        private boolean readsItems(String letters, int[] highest) {
            int had = 0;
            for (int k = 0; k <= letters.length(); k++) {
                int sign = tape.sign();
                int item = sign == Tape.ENDED ? -1 : letters.indexOf((char) sign);
                if (item < 0) {
                    return true;
                }
                if (hasBit(had, item)) {
                    return false;
                }
                had |= 1 << item;
                tape.step();
                int value = tape.number(2, at(highest, item));
                if (value == NONE) {
                    return false;
                }
                put(items, item, value);
            }
            return false;
        }
    }

    /**
     * Reads the tape as a law into steps for a Law: a number itself, a sign as its negative;
     * behind -'?' stands where to go on if the condition does not hold.
     */
    private static final class LawReader {
        private static final String LETTERS = "sbftgw";
        private static final int MOST_DIGITS = 4;
        private static final int HIGHEST_DIGITS = 9999;

        final int[] code = new int[TAPE_BYTES];
        int used;
        private final Tape tape;

        LawReader(Tape tape) {
            this.tape = tape;
        }

        int firstFault() {
            used = 0;
            tape.mark = 0;
            for (int k = 0; k <= TAPE_BYTES; k++) {
                if (!readsClause()) {
                    return tape.mark;
                }
                if (tape.sign() == Tape.ENDED) {
                    return NONE;
                }
                if (!tape.takes(';')) {
                    return tape.mark;
                }
            }
            return tape.mark;
        }

        private boolean readsClause() {
            if (!tape.takes('y') || !tape.takes(':')) {
                return false;
            }
            int sign = tape.sign();
            if (sign == '!' || sign == '(') {
                return readsCondition(0, false) && readsGuarded();
            }
            if (!readsSum(0)) {
                return false;
            }
            if (isComparison(tape.sign())) {
                return readsCondition(0, true) && readsGuarded();
            }
            emit(-';');
            return true;
        }

        private boolean readsGuarded() {
            if (!tape.takes('?')) {
                return false;
            }
            emit(-'?');
            int target = used;
            emit(0);
            if (!readsSum(0)) {
                return false;
            }
            emit(-';');
            put(code, target, used);
            return true;
        }

        /** Only behind its first sum is it seen that a clause has a condition: that sum is read by then. */
        private boolean readsCondition(int depth, boolean sumRead) {
            if (!readsTruth(depth, sumRead)) {
                return false;
            }
            for (int k = 0; k <= TAPE_BYTES && tape.sign() == '|'; k++) {
                tape.step();
                if (!readsTruth(depth, false)) {
                    return false;
                }
                emit(-'|');
            }
            return true;
        }

        private boolean readsTruth(int depth, boolean sumRead) {
            if (!readsUnit(depth, sumRead)) {
                return false;
            }
            for (int k = 0; k <= TAPE_BYTES && tape.sign() == '&'; k++) {
                tape.step();
                if (!readsUnit(depth, false)) {
                    return false;
                }
                emit(-'&');
            }
            return true;
        }

        private boolean readsUnit(int depth, boolean sumRead) {
            int sign = tape.sign();
            if (!sumRead && (sign == '!' || sign == '(')) {
                return depth < MOST_NESTED && readsNested(sign, depth + 1);
            }
            if (!sumRead && !readsSum(depth)) {
                return false;
            }
            int comparison = tape.sign();
            if (!isComparison(comparison)) {
                return false;
            }
            tape.step();
            if (!readsSum(depth)) {
                return false;
            }
            emit(-comparison);
            return true;
        }

        private boolean readsNested(int sign, int depth) {
            tape.step();
            if (sign == '(') {
                return readsCondition(depth, false) && tape.takes(')');
            }
            if (!readsUnit(depth, false)) {
                return false;
            }
            emit(-'!');
            return true;
        }

        private boolean readsSum(int depth) {
            if (!readsTerm(depth)) {
                return false;
            }
            int sign = tape.sign();
            for (int k = 0; k <= TAPE_BYTES && (sign == '+' || sign == '-'); k++) {
                tape.step();
                if (!readsTerm(depth)) {
                    return false;
                }
                emit(-sign);
                sign = tape.sign();
            }
            return true;
        }

        private boolean readsTerm(int depth) {
            if (!readsAtom(depth)) {
                return false;
            }
            int sign = tape.sign();
            for (int k = 0; k <= TAPE_BYTES && (sign == '*' || sign == '/'); k++) {
                tape.step();
                if (!readsAtom(depth)) {
                    return false;
                }
                emit(-sign);
                sign = tape.sign();
            }
            return true;
        }

        private boolean readsAtom(int depth) {
            int sign = tape.sign();
            if (sign == '[') {
                if (depth >= MOST_NESTED) {
                    return false;
                }
                tape.step();
                return readsSum(depth + 1) && tape.takes(']');
            }
            if (sign != Tape.ENDED && LETTERS.indexOf((char) sign) >= 0) {
                tape.step();
                emit(-sign);
                return true;
            }
            int value = tape.number(MOST_DIGITS, HIGHEST_DIGITS);
            if (value == NONE) {
                return false;
            }
            emit(value);
            return true;
        }

        /** Each step has a sign of its own on the tape, so they never are too many. */
        private void emit(int step) {
            if (used < code.length) {
                put(code, used, step);
                used++;
            }
        }

        private static boolean isComparison(int sign) {
            return sign == '=' || sign == '<' || sign == '>';
        }
    }

    /** A law as steps over a stack of numbers, each operator behind its operands. */
    private static final class Law {
        private static final int STACK = 64;

        private final int[] code;
        private final int[] stack = new int[STACK];
        private int height;

        Law(int[] code, int used) {
            this.code = new int[Math.max(0, Math.min(used, code.length))];
            copyRow(code, this.code);
        }

        int worth(int s, int b, int f, int t, int g, int w) {
            height = 0;
            int next = 0;
            for (int k = 0; k < code.length && next >= 0 && next < code.length; k++) {
                int step = code[next];
                next++;
                switch (-step) {
                    case 's':
                        push(s);
                        break;
                    case 'b':
                        push(b);
                        break;
                    case 'f':
                        push(f);
                        break;
                    case 't':
                        push(t);
                        break;
                    case 'g':
                        push(g);
                        break;
                    case 'w':
                        push(w);
                        break;
                    case '?':
                        next = pop() == 0 ? at(code, next) : next + 1;
                        break;
                    case '!':
                        push(pop() == 0 ? 1 : 0);
                        break;
                    case ';':
                        return pop();
                    default:
                        if (step < 0) {
                            int right = pop();
                            step = joined(-step, pop(), right);
                        }
                        push(step);
                        break;
                }
            }
            return 0;
        }

        private static int joined(int sign, long left, long right) {
            long number;
            switch (sign) {
                case '+':
                    number = left + right;
                    break;
                case '-':
                    number = left - right;
                    break;
                case '*':
                    number = left * right;
                    break;
                case '/':
                    number = right == 0 ? 0 : left / right;
                    break;
                case '=':
                    number = left == right ? 1 : 0;
                    break;
                case '<':
                    number = left < right ? 1 : 0;
                    break;
                case '>':
                    number = left > right ? 1 : 0;
                    break;
                case '&':
                    number = left & right;
                    break;
                default:
                    number = left | right;
                    break;
            }
            return (int) Math.max(-HIGHEST_NUMBER, Math.min(HIGHEST_NUMBER, number));
        }

        private void push(int number) {
            if (height >= 0 && height < stack.length) {
                stack[height] = number;
                height++;
            }
        }

        private int pop() {
            if (height <= 0 || height > stack.length) {
                return 0;
            }
            height--;
            return stack[height];
        }
    }

    /** How it stands: who sits in each saddle (NONE: no saddle there), on whom, the galls, coins and week. */
    private static final class Stand {
        final int[] who = new int[PLACES];
        final int[] under = new int[PLACES];
        final int[] fit = new int[PLACES];
        final int[] gall = new int[PEOPLE];
        int coins;
        int week;

        Stand() {
            for (int k = 0; k < who.length; k++) {
                who[k] = NONE;
            }
        }

        void begin(Told told) {
            for (int k = 0; k < PLACES; k++) {
                if (k < told.saddles) {
                    girth(k, at(told.who, k), at(told.under, k), at(told.fit, k));
                } else {
                    ungirth(k);
                }
            }
            for (int p = 0; p < PEOPLE; p++) {
                put(gall, p, 0);
            }
            coins = told.coins;
            week = 0;
        }

        void copy(Stand other) {
            copyRow(other.who, who);
            copyRow(other.under, under);
            copyRow(other.fit, fit);
            copyRow(other.gall, gall);
            coins = other.coins;
            week = other.week;
        }

        boolean isSaddle(int place) {
            return place >= 0 && place < PLACES && at(who, place) != NONE;
        }

        boolean isOn(int place, int person) {
            return isSaddle(place) && at(under, place) == person;
        }

        void girth(int place, int one, int other, int newFit) {
            put(who, place, one);
            put(under, place, other);
            put(fit, place, newFit);
        }

        void ungirth(int place) {
            girth(place, NONE, NONE, 0);
        }

        void ungirthAll(int person) {
            for (int k = 0; k < PLACES; k++) {
                if (isOn(k, person)) {
                    ungirth(k);
                }
            }
        }

        int placeOf(int one, int other) {
            for (int k = 0; k < PLACES; k++) {
                if (isOn(k, other) && at(who, k) == one) {
                    return k;
                }
            }
            return NONE;
        }

        int freePlace() {
            for (int k = 0; k < PLACES; k++) {
                if (!isSaddle(k)) {
                    return k;
                }
            }
            return NONE;
        }

        int saddlePlaces() {
            int places = 0;
            for (int k = 0; k < PLACES; k++) {
                if (isSaddle(k)) {
                    places |= 1 << k;
                }
            }
            return places;
        }

        int saddleCount() {
            return Integer.bitCount(saddlePlaces());
        }

        boolean bearsAny(int person) {
            for (int k = 0; k < PLACES; k++) {
                if (isOn(k, person)) {
                    return true;
                }
            }
            return false;
        }

        int satBy(int person) {
            int sat = 0;
            for (int k = 0; k < PLACES; k++) {
                if (isSaddle(k) && at(who, k) == person) {
                    sat++;
                }
            }
            return sat;
        }

        int sittingPeople() {
            int people = 0;
            for (int k = 0; k < PLACES; k++) {
                if (isSaddle(k)) {
                    people |= 1 << at(who, k);
                }
            }
            return people;
        }

        int allGall() {
            int all = 0;
            for (int p = 0; p < PEOPLE; p++) {
                all += at(gall, p);
            }
            return all;
        }

        /** On whom some of these people sit at once. */
        private int riddenBy(int people) {
            int ridden = 0;
            for (int k = 0; k < PLACES; k++) {
                if (isSaddle(k) && hasBit(people, at(who, k))) {
                    ridden |= 1 << at(under, k);
                }
            }
            return ridden;
        }

        int above(int person) {
            int people = 1 << person;
            int all = 0;
            for (int k = 0; k < PEOPLE; k++) {
                people = riddenBy(people);
                all |= people;
            }
            return all;
        }

        /** The fewest saddles, one at least, from one to another one. */
        int ridesBetween(int from, int to) {
            int people = 1 << from;
            for (int k = 1; k <= PEOPLE; k++) {
                people = riddenBy(people);
                if (hasBit(people, to)) {
                    return k;
                }
            }
            return NONE;
        }
    }

    /**
     * What was: the log, the stands ahead of the latest acts (going round), an image.
     * A hundred weeks of the log are kept: the sixty that can be told of a stand,
     * and the forty that may be undone on the way back to it.
     */
    private static final class Past {
        private static final int LOG_WEEKS = MOST_LOGGED + MOST_ACTS;
        private static final int LOG_ITEMS = 3;

        private final int[] entries = new int[LOG_WEEKS * LOG_ITEMS];
        private final int[] imageEntries = new int[LOG_WEEKS * LOG_ITEMS];
        private final Stand imageStand = new Stand();
        private final Stand[] stands = new Stand[MOST_ACTS];
        private boolean hasImage;
        private int next;
        int kept;

        Past() {
            for (int k = 0; k < stands.length; k++) {
                stands[k] = new Stand();
            }
        }

        void forget() {
            kept = 0;
            hasImage = false;
        }

        void keep(Stand now) {
            Stand stand = standAt(next);
            if (stand == null) {
                return;
            }
            stand.copy(now);
            next = (next + 1) % MOST_ACTS;
            kept = Math.min(MOST_ACTS, kept + 1);
        }

        boolean takeBack(Stand now) {
            int latest = (next + MOST_ACTS - 1) % MOST_ACTS;
            Stand stand = standAt(latest);
            if (kept <= 0 || stand == null) {
                return false;
            }
            now.copy(stand);
            next = latest;
            kept--;
            return true;
        }

        private Stand standAt(int i) {
            return i >= 0 && i < stands.length ? stands[i] : null;
        }

        void takeImage(Stand now) {
            imageStand.copy(now);
            copyRow(entries, imageEntries);
            hasImage = true;
        }

        boolean goBack(Stand now) {
            if (!hasImage) {
                return false;
            }
            now.copy(imageStand);
            copyRow(imageEntries, entries);
            kept = 0;
            return true;
        }

        /** The entry of the week that has just gone by. */
        void write(int threw, Stand now) {
            int row = Math.floorMod(now.week - 1, LOG_WEEKS) * LOG_ITEMS;
            put(entries, row, threw);
            put(entries, row + 1, now.allGall());
            put(entries, row + 2, now.saddleCount());
        }

        int entry(int week, int what) {
            if (what < 0 || what >= LOG_ITEMS) {
                return NONE;
            }
            return at(entries, Math.floorMod(week, LOG_WEEKS) * LOG_ITEMS + what);
        }
    }

    /** How much saddles pinch by the law that holds, and what a week does with it. */
    private static final class Pinches {
        private final Told told;
        private final Law[] laws = new Law[MOST_LAWS];
        int lawCount;
        int holding = NONE;

        Pinches(Told told) {
            this.told = told;
        }

        void addLaw(Law law) {
            if (lawCount >= 0 && lawCount < laws.length) {
                laws[lawCount] = law;
                lawCount++;
            }
        }

        private int pinchAt(int one, int other, int fit, int gall, int week) {
            Law law = holding >= 0 && holding < laws.length ? laws[holding] : null;
            int breadth = at(told.breadth, other);
            int strength = at(told.strength, one);
            int worth = law == null
                    ? Math.abs(fit - breadth) + strength / 3
                    : law.worth(strength, breadth, fit, at(told.temper, other), gall, week % HUNDRED);
            return Math.max(0, Math.min(MOST_PINCH, worth));
        }

        int wereIt(Stand stand, int one, int other, int fit) {
            return pinchAt(one, other, fit, at(stand.gall, other), stand.week);
        }

        int inPlace(Stand stand, int place) {
            return wereIt(stand, at(stand.who, place), at(stand.under, place), at(stand.fit, place));
        }

        private int loadAt(Stand stand, int person, int gall, int week) {
            int load = 0;
            for (int k = 0; k < PLACES; k++) {
                if (stand.isOn(k, person)) {
                    load += pinchAt(at(stand.who, k), person, at(stand.fit, k), gall, week);
                }
            }
            return load;
        }

        int loadNow(Stand stand, int person) {
            return loadAt(stand, person, at(stand.gall, person), stand.week);
        }

        int galledBy(Stand stand, int person, int gall, int week) {
            return Math.min(MOST_GALL, gall + loadAt(stand, person, gall, week));
        }

        int bestFit(Stand stand, int one, int other) {
            int best = 0;
            for (int fit = 1; fit < FIT_COUNT; fit++) {
                if (wereIt(stand, one, other, fit) < wereIt(stand, one, other, best)) {
                    best = fit;
                }
            }
            return best;
        }

        /** In how many weeks, as it stands, he throws first. */
        int firstThrow(Stand stand, int person, int weeks) {
            if (!stand.bearsAny(person)) {
                return NONE;
            }
            int gall = at(stand.gall, person);
            for (int k = 0; k < weeks; k++) {
                gall = Math.min(MOST_GALL, gall + loadAt(stand, person, gall, stand.week + k));
                if (gall >= told.limitOf(person)) {
                    return k + 1;
                }
            }
            return NONE;
        }

        /** A week goes by, but for coins and log: who threw. Nobody's gall depends on another one's. */
        int pass(Stand stand) {
            int threw = 0;
            for (int p = 0; p < told.persons; p++) {
                int gall = at(stand.gall, p);
                if (!stand.bearsAny(p)) {
                    put(stand.gall, p, Math.max(0, gall - told.heals));
                    continue;
                }
                gall = galledBy(stand, p, gall, stand.week);
                if (gall >= told.limitOf(p)) {
                    threw |= 1 << p;
                    stand.ungirthAll(p);
                    gall /= 2;
                }
                put(stand.gall, p, gall);
            }
            stand.week++;
            return threw;
        }
    }

    /** The search for the least stitching by which somebody bears his saddles. */
    private static final class Stitching {
        private static final int MOST_STITCHED = 2;
        private static final int MOST_COST = MOST_STITCHED * (FIT_COUNT - 1);

        private final Pinches pinches;
        private final Stand trial = new Stand();
        private int person;
        private int weeks;
        int leastCoins;
        int leastFits;

        Stitching(Pinches pinches) {
            this.pinches = pinches;
        }

        /** Costs are tried rising: the first by which he bears them is the least. */
        void search(Stand now, int person, int weeks) {
            trial.copy(now);
            this.person = person;
            this.weeks = weeks;
            leastCoins = trial.bearsAny(person) ? NONE : 0;
            leastFits = NONE;
            for (int cost = 0; cost <= MOST_COST && leastCoins == NONE; cost++) {
                searchFrom(0, cost, MOST_STITCHED);
                if (leastFits != NONE) {
                    leastCoins = cost;
                }
            }
        }

        /** Spends all the coins left on stitching in this place and later ones. */
        private void searchFrom(int place, int left, int more) {
            if (left == 0) {
                int fits = fitsTold();
                boolean isLess = leastFits == NONE || fits < leastFits;
                if (isLess && pinches.firstThrow(trial, person, weeks) == NONE) {
                    leastFits = fits;
                }
                return;
            }
            for (int k = place; k < PLACES && more > 0; k++) {
                int was = at(trial.fit, k);
                for (int fit = 0; fit < FIT_COUNT && trial.isOn(k, person); fit++) {
                    int cost = Math.abs(fit - was);
                    if (cost > 0 && cost <= left) {
                        put(trial.fit, k, fit);
                        searchFrom(k + 1, left - cost, more - 1);
                        put(trial.fit, k, was);
                    }
                }
            }
        }

        private int fitsTold() {
            int fits = 0;
            for (int k = 0; k < PLACES; k++) {
                if (trial.isOn(k, person)) {
                    fits = fits * 10 + at(trial.fit, k);
                }
            }
            return fits;
        }
    }

    /** The search for who should sit on whom. */
    private static final class Seating {
        private final Told told;
        private final Pinches pinches;
        private final int[] least = new int[PEOPLE * PEOPLE];
        int leastRow;
        int leastPinch;

        Seating(Told told, Pinches pinches) {
            this.told = told;
            this.pinches = pinches;
        }

        void search(Stand now) {
            leastRow = NONE;
            leastPinch = NONE;
            for (int one = 0; one < told.persons; one++) {
                for (int other = 0; other < told.persons; other++) {
                    int fit = one == other ? 0 : pinches.bestFit(now, one, other);
                    put(least, one * PEOPLE + other, pinches.wereIt(now, one, other, fit));
                }
            }
            seatFrom(0, 0, 0, 0);
        }

        /** Rows come rising, so that a later one must pinch less to be taken. */
        private void seatFrom(int person, int borne, int row, int pinch) {
            if (leastPinch != NONE && pinch >= leastPinch) {
                return;
            }
            if (person >= told.persons) {
                leastRow = row;
                leastPinch = pinch;
                return;
            }
            for (int other = 0; other < told.persons; other++) {
                if (other != person && !hasBit(borne, other)) {
                    int more = at(least, person * PEOPLE + other);
                    seatFrom(person + 1, borne | 1 << other, row * 10 + other, pinch + more);
                }
            }
        }
    }

    /** What was seen of the county as told, and how a told saddle may have fitted by it. */
    private static final class Seeing {
        private final Told told;
        private final Pinches pinches;
        private final Stand trial = new Stand();
        private final int[] person = new int[MOST_SEEN];
        private final int[] weeks = new int[MOST_SEEN];
        private final int[] mark = new int[MOST_SEEN];
        private final boolean[] more = new boolean[MOST_SEEN];
        private final int[] fittingGall = new int[FIT_COUNT];
        private int fittingFits;
        int kept;

        Seeing(Told told, Pinches pinches) {
            this.told = told;
            this.pinches = pinches;
        }

        boolean add(int who, int behind, int v, boolean orMore) {
            if (kept < 0 || kept >= more.length) {
                return false;
            }
            put(person, kept, who);
            put(weeks, kept, behind);
            put(mark, kept, v);
            more[kept] = orMore;
            kept++;
            return true;
        }

        /** Finds the fits (bits) by which all seen is so, and for each the gall of who bears it behind these weeks. */
        void tryFits(int saddle, int behind) {
            fittingFits = 0;
            for (int fit = 0; fit < FIT_COUNT; fit++) {
                trial.begin(told);
                put(trial.fit, saddle, fit);
                boolean agrees = true;
                for (int week = 1; week <= MOST_SEEN_WEEKS && agrees; week++) {
                    pinches.pass(trial);
                    agrees = agreesBehind(week);
                    if (week == behind) {
                        put(fittingGall, fit, at(trial.gall, at(told.under, saddle)));
                    }
                }
                if (agrees) {
                    fittingFits |= 1 << fit;
                }
            }
        }

        private boolean agreesBehind(int week) {
            for (int k = 0; k < kept && k < more.length; k++) {
                if (at(weeks, k) == week) {
                    boolean galled = at(trial.gall, at(person, k)) >= at(mark, k);
                    if (galled != more[k]) {
                        return false;
                    }
                }
            }
            return true;
        }

        int fitting(int i) {
            if (i == NONE) {
                return Integer.bitCount(fittingFits);
            }
            int found = 0;
            for (int fit = 0; fit < FIT_COUNT; fit++) {
                if (hasBit(fittingFits, fit)) {
                    if (found == i) {
                        return fit;
                    }
                    found++;
                }
            }
            return NONE;
        }

        int fairestMark() {
            int fairest = NONE;
            int least = 0;
            for (int v = 0; v <= MOST_GALL && fittingFits != 0; v++) {
                int apart = apartAt(v);
                if (fairest == NONE || apart < least) {
                    fairest = v;
                    least = apart;
                }
            }
            return fairest;
        }

        private int apartAt(int v) {
            int apart = 0;
            for (int fit = 0; fit < FIT_COUNT; fit++) {
                if (hasBit(fittingFits, fit)) {
                    apart += at(fittingGall, fit) >= v ? 1 : -1;
                }
            }
            return Math.abs(apart);
        }
    }
}
