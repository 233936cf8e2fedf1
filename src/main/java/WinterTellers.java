import java.util.Arrays;
import java.util.NoSuchElementException;

/** Guests who stay as long as they can go on with their tales: see ../shared/DOC.md. */
public final class WinterTellers {
    public static final int NONE = -1;
    public static final int HIDDEN = -1000000;

    /** Of houses, of tales, and of signs within one another in a law. */
    private static final int SIX = 6;
    private static final int CELLS = SIX * SIX;
    private static final int MOST_NIGHTS = 20;
    private static final int MOST_KNOTS = 9;
    private static final int MOST_GIFT = 50;
    private static final int MOST_YEARS = 60;
    private static final int COLD_BELOW = 5;
    private static final int ALL_PARTS = 1000000000;

    private static final int NO_SUCH = 0;
    private static final int OUT_OF_BOUNDS = 1;
    private static final int NOT_SO = 2;
    private static final int NO_BREAD = 3;
    private static final int TOO_LATE = 4;

    private final Tape tape;
    private final CoastReader coastReader;
    private final LawReader lawReader;
    private final Laws laws;
    private final Coast coast;
    private final Stand stand;
    private final Past past;
    private final Stays stays;
    private final Guess guess;
    private final Plans plans;
    private final Duel duel;
    private final int[] refused;
    private int whyBelow;

    public WinterTellers() {
        tape = new Tape();
        coastReader = new CoastReader(tape);
        lawReader = new LawReader(tape);
        laws = new Laws();
        coast = new Coast();
        stand = new Stand();
        past = new Past();
        stays = new Stays(coast, stand, laws);
        guess = new Guess(coast, stays);
        plans = new Plans(coast, stand, stays);
        duel = new Duel(coast, stays);
        refused = new int[TOO_LATE + 1];
        whyBelow = 2;
    }

    public int feed(int a, int b, int c, int d, int e) {
        int more = Tape.signsOf(a) + Tape.signsOf(b) + Tape.signsOf(c) + Tape.signsOf(d) + Tape.signsOf(e);
        if (tape.size + more > Tape.MOST) {
            return NONE;
        }
        tape.add(a);
        tape.add(b);
        tape.add(c);
        tape.add(d);
        tape.add(e);
        return tape.size;
    }

    public boolean end(int n) {
        if (n < 0 || n > tape.size) {
            return false;
        }
        tape.size = n;
        return true;
    }

    public int fault(int sort) {
        if (sort == 0) {
            return coastReader.read();
        }
        return sort == 1 ? lawReader.read() : -2;
    }

    public int text(int sort) {
        if (sort == 0 && coastReader.read() == NONE) {
            takeCoast();
            return coast.houses;
        }
        if (sort == 1 && laws.known < Laws.MOST && lawReader.read() == NONE) {
            laws.add(lawReader.codes, lawReader.size);
            tape.size = 0;
            return laws.known - 1;
        }
        return NONE;
    }

    private void takeCoast() {
        tape.size = 0;
        coast.become(coastReader.draft);
        stand.begin(coast);
        past.forget();
        guess.sights = 0;
    }

    public int house(int house, int what) {
        if (!coast.hasHouse(house)) {
            return NONE;
        }
        switch (what) {
            case 0:
                return stand.heardBits(house);
            case 1:
                return coast.curious[house];
            case 2:
                return coast.warm[house];
            default:
                return NONE;
        }
    }

    public int tale(int tale, int what) throws NoSuchElementException {
        if (!coast.hasTale(tale) || what < 0 || what > 3) {
            throw new NoSuchElementException();
        }
        switch (what) {
            case 0:
                return coast.lengths[tale];
            case 1:
                return stand.knots[tale];
            case 2:
                return coast.truths[tale];
            default:
                return stand.owns(tale) ? 1 : 0;
        }
    }

    public int heard(int house, int tale) {
        return coast.hasBoth(house, tale) ? stand.heard[house * SIX + tale] : NONE;
    }

    public int nights(int house, int tale) {
        return coast.hasBoth(house, tale) ? stays.now(house, tale) : NONE;
    }

    public boolean law(int law) {
        if (law < NONE || law >= laws.known) {
            return false;
        }
        laws.holding = law;
        return true;
    }

    private int refuse(int why) {
        refused[why]++;
        return NONE;
    }

    public int tells(int tale) {
        if (!coast.hasTale(tale)) {
            return refuse(NO_SUCH);
        }
        if (!stand.owns(tale)) {
            return refuse(NOT_SO);
        }
        int stay = stays.now(stand.at, tale);
        if (!stand.hasDays(Stand.daysOf(stay))) {
            return refuse(TOO_LATE);
        }
        past.keep(stand);
        stand.tellHere(tale, stay);
        return stay;
    }

    public int goes(int house) {
        if (!coast.hasHouse(house)) {
            return refuse(NO_SUCH);
        }
        if (house == stand.at) {
            return refuse(NOT_SO);
        }
        int far = stand.farTo(house);
        if (far > stand.bread) {
            return refuse(NO_BREAD);
        }
        if (!stand.hasDays(far)) {
            return refuse(TOO_LATE);
        }
        past.keep(stand);
        stand.walkTo(house);
        return far;
    }

    public int learns(int tale) {
        if (!coast.hasTale(tale)) {
            return refuse(NO_SUCH);
        }
        if (stand.owns(tale) || stand.heard[stand.at * SIX + tale] == 0) {
            return refuse(NOT_SO);
        }
        if (stand.bread < 1) {
            return refuse(NO_BREAD);
        }
        if (!stand.hasDays(2)) {
            return refuse(TOO_LATE);
        }
        past.keep(stand);
        stand.day += 2;
        stand.bread--;
        stand.owned |= 1 << tale;
        return Integer.bitCount(stand.owned);
    }

    public int ties(int tale) {
        if (!coast.hasTale(tale)) {
            return refuse(NO_SUCH);
        }
        if (!stand.owns(tale) || stand.knots[tale] >= MOST_KNOTS) {
            return refuse(NOT_SO);
        }
        if (stand.bread < 2) {
            return refuse(NO_BREAD);
        }
        past.keep(stand);
        stand.bread -= 2;
        stand.knots[tale]++;
        return stand.knots[tale];
    }

    public int rest() {
        if (!coast.isTold()) {
            return refuse(NO_SUCH);
        }
        int cost = coast.warm[stand.at] < COLD_BELOW ? 1 : 0;
        if (stand.bread < cost) {
            return refuse(NO_BREAD);
        }
        if (!stand.hasDays(1)) {
            return refuse(TOO_LATE);
        }
        past.keep(stand);
        stand.day++;
        stand.bread -= cost;
        return stand.bread;
    }

    public int give(int n) {
        if (!coast.isTold()) {
            return refuse(NO_SUCH);
        }
        if (n < 1 || n > MOST_GIFT || stand.bread + n > Stand.MOST_BREAD) {
            return refuse(OUT_OF_BOUNDS);
        }
        past.keep(stand);
        stand.bread += n;
        return stand.bread;
    }

    public boolean whys(int v) {
        if (v < 0 || v > 9 || v == whyBelow) {
            return false;
        }
        whyBelow = v;
        return true;
    }

    public int years(int n, long seed) {
        if (!coast.isTold() || n < 1 || n > MOST_YEARS) {
            return NONE;
        }
        long x = seed;
        for (int i = 0; i < n; i++) {
            past.keep(stand);
            x = turned(x);
            walkIfHeCan(drawn(x, coast.houses));
            x = turned(x);
            tellIfHeCan(drawn(x, coast.tales));
            x = turned(x);
            if (drawn(x, 10) < whyBelow) {
                stand.bread = Math.min(stand.bread + 3, Stand.MOST_BREAD);
            }
        }
        return stand.day;
    }

    private static long turned(long x) {
        return x * 6364136223846793005L + 1442695040888963407L;
    }

    private static int drawn(long x, int j) {
        return j > 0 ? (int) ((x >>> 33) % j) : 0;
    }

    private void walkIfHeCan(int house) {
        int far = stand.farTo(house);
        if (far <= stand.bread && stand.hasDays(far)) {
            stand.walkTo(house);
        }
    }

    private void tellIfHeCan(int tale) {
        if (!stand.owns(tale)) {
            return;
        }
        int stay = stays.now(stand.at, tale);
        if (stand.hasDays(Stand.daysOf(stay))) {
            stand.tellHere(tale, stay);
        }
    }

    public int status(int what) {
        return what >= 0 && what < refused.length ? refused[what] : NONE;
    }

    public int undo() {
        if (past.kept == 0) {
            return NONE;
        }
        past.takeBack(stand);
        return past.kept;
    }

    public int log(int i, int what) {
        if (i < 0 || i >= stand.logSize()) {
            return NONE;
        }
        int telling = stand.telling(i);
        switch (what) {
            case 0:
                return telling / 1000;
            case 1:
                return telling / 100 % 10;
            case 2:
                return telling % 100;
            default:
                return NONE;
        }
    }

    public int best(int house, int what) {
        if (!coast.hasHouse(house) || what < 0 || what > 1) {
            return NONE;
        }
        plans.findBest(house, stand.heard);
        return what == 0 ? plans.bestTale : plans.bestStay;
    }

    public int two(int what) {
        if (!coast.isTold() || what < 0 || what > 1) {
            return NONE;
        }
        plans.findTwo();
        return what == 0 ? plans.row : plans.sum;
    }

    public int places(int what) {
        if (!coast.isTold() || what < 0 || what > 1) {
            return NONE;
        }
        plans.findPlaces();
        return what == 0 ? plans.row : plans.sum;
    }

    public int fewest(int v) {
        return coast.isTold() && v >= 1 && v <= MOST_NIGHTS ? plans.fewestFor(v) : NONE;
    }

    public int seen(int house, int v, boolean is) {
        if (!coast.hasHouse(house) || v < 0 || v > MOST_NIGHTS || guess.sights >= Guess.MOST) {
            return NONE;
        }
        guess.add(house, v, is);
        return guess.sights;
    }

    public int told(int i) {
        if (!coast.isTold()) {
            return NONE;
        }
        int fitting = guess.fitting();
        return i == NONE ? Integer.bitCount(fitting) : Guess.bitAt(fitting, i);
    }

    public int ask(int v) {
        return coast.isTold() && v >= 0 && v <= MOST_NIGHTS ? guess.houseToAsk(v, guess.fitting()) : NONE;
    }

    public int game(int house, int x, int y, int what) {
        if (!coast.hasHouse(house) || x < 0 || x >= SIX || y < 0 || y >= SIX || what < 0 || what > 1) {
            return HIDDEN;
        }
        duel.standIn(house);
        return what == 0 ? duel.firstHas(x, y) : duel.secondHas(x, y);
    }

    public int rests(int house, int i) {
        if (!coast.hasHouse(house)) {
            return NONE;
        }
        duel.standIn(house);
        return duel.quietPair(i);
    }

    public int odds(int house, int tale, int chance, int v) {
        if (!coast.hasBoth(house, tale) || chance < 0 || chance > 100 || v < 0 || v > MOST_NIGHTS) {
            return NONE;
        }
        if (v > stays.now(house, tale)) {
            return 0;
        }
        long part = ALL_PARTS;
        for (int night = 2; night <= v; night++) {
            part -= part * chance / 100;
        }
        return (int) part;
    }

    public int reach() {
        if (!coast.isTold()) {
            return NONE;
        }
        int bits = 0;
        for (int house = 0; house < coast.houses; house++) {
            if (stand.farTo(house) <= stand.bread) {
                bits |= 1 << house;
            }
        }
        return bits;
    }

    public int shares(int tale, int c) {
        if (!coast.hasTale(tale) || c < 0 || c > 999) {
            return NONE;
        }
        int all = 0;
        for (int i = 0; i < coast.tales; i++) {
            all += coast.lengths[i];
        }
        return all > 0 ? c * coast.lengths[tale] / all : 0;
    }

    public int fresh(int house, int what) {
        if (!coast.hasHouse(house) || what < 0 || what > 1) {
            return NONE;
        }
        int known = stand.heardBits(house);
        return what == 0 ? stand.owned & ~known : known & ~stand.owned;
    }

    public int where(int tale, int v) {
        if (!coast.hasTale(tale) || v < 1 || v > MOST_NIGHTS) {
            return NONE;
        }
        int bits = 0;
        for (int house = 0; house < coast.houses; house++) {
            if (stays.now(house, tale) >= v) {
                bits |= 1 << house;
            }
        }
        return bits;
    }

    public int round(int what) {
        if (!coast.isTold() || what < 0 || what > 2) {
            return NONE;
        }
        plans.goRound();
        if (what == 0) {
            return plans.roundTellings;
        }
        return what == 1 ? plans.roundNights : plans.roundBread;
    }

    public int most(int what) {
        if (!coast.isTold()) {
            return NONE;
        }
        switch (what) {
            case 0:
                return highest(coast.lengths, coast.tales);
            case 1:
                return highest(stand.knots, coast.tales);
            case 2:
                return highest(coast.curious, coast.houses);
            case 3:
                return highest(coast.warm, coast.houses);
            case 4:
                return plans.dullest();
            case 5:
                return coast.trueBits();
            case 6:
                return commonBits();
            case 7:
                return plans.allNights();
            case 8:
                return plans.holdingHouses();
            default:
                return NONE;
        }
    }

    private static int highest(int[] row, int size) {
        int found = 0;
        for (int i = 1; i < size && i < row.length; i++) {
            if (row[i] > row[found]) {
                found = i;
            }
        }
        return found;
    }

    private int commonBits() {
        int bits = coast.allTales();
        for (int house = 0; house < coast.houses; house++) {
            bits &= stand.heardBits(house);
        }
        return bits;
    }

    public int image() {
        if (!coast.isTold()) {
            return NONE;
        }
        past.keepImage(stand);
        return stand.day;
    }

    public int back() {
        if (!past.imaged) {
            return NONE;
        }
        past.takeImage(stand);
        return stand.day;
    }

    public int count(int what) {
        switch (what) {
            case 0:
                return coast.houses;
            case 1:
                return coast.tales;
            case 2:
                return laws.known;
            case 3:
                return tape.size;
            case 4:
                return laws.holding;
            case 11:
                return whyBelow;
            case 12:
                return guess.sights;
            case 13:
                return stand.logSize();
            case 14:
                return past.kept;
            default:
                return countOfStand(what);
        }
    }

    private int countOfStand(int what) {
        switch (what) {
            case 5:
                return stand.day;
            case 6:
                return stand.at;
            case 7:
                return stand.owned;
            case 8:
                return stand.bread;
            case 9:
                return stand.nightsInAll;
            case 10:
                return stand.putOut;
            default:
                return HIDDEN;
        }
    }

    /** The bytes that were fed, and a reader's way through them up to the first that is wrong. */
    private static final class Tape {
        static final int MOST = 240;

        final int[] signs = new int[MOST];
        int size;
        int place;
        int wrong;

        static int signsOf(int word) {
            int found = 0;
            for (int shift = 24; shift >= 0; shift -= 8) {
                if ((word >>> shift & 255) != 0) {
                    found++;
                }
            }
            return found;
        }

        void add(int word) {
            for (int shift = 24; shift >= 0; shift -= 8) {
                int sign = word >>> shift & 255;
                if (sign != 0 && size < MOST) {
                    signs[size] = sign;
                    size++;
                }
            }
        }

        void rewind() {
            place = 0;
            wrong = NONE;
        }

        /** Only the first one counts: a reader may go on behind it, but finds no more signs. */
        void fail(int at) {
            if (wrong == NONE) {
                wrong = at;
            }
        }

        /** The next sign that is no blank; 0 at the end, as 0 is never on a tape. */
        int peek() {
            if (wrong != NONE) {
                return 0;
            }
            skipBlanks();
            return place < size ? signs[place] : 0;
        }

        private void skipBlanks() {
            while (place < size && signs[place] == ' ') {
                place++;
            }
        }

        boolean takes(int sign) {
            if (peek() != sign) {
                return false;
            }
            place++;
            return true;
        }

        void demand(int sign) {
            if (peek() == sign) {
                place++;
            } else {
                fail(place);
            }
        }

        void demandEnd() {
            if (peek() != 0) {
                fail(place);
            }
        }

        private boolean atDigit() {
            return place < size && signs[place] >= '0' && signs[place] <= '9';
        }

        /** A digit too many is wrong itself, even behind digits that are out of bounds already. */
        int number(int digits, int low, int high) {
            int value = 0;
            int read = 0;
            skipBlanks();
            for (; read < digits && atDigit(); read++) {
                value = value * 10 + signs[place] - '0';
                place++;
            }
            if (read == 0 || atDigit()) {
                fail(place);
            } else if (value < low || value > high) {
                fail(place - 1);
            }
            return value;
        }
    }

    /** A coast as its text tells it; without houses there is none. */
    private static final class Coast {
        int houses;
        int tales;
        int bread;
        int owned;
        int at;
        int often;
        final int[] known = new int[SIX];
        final int[] curious = new int[SIX];
        final int[] warm = new int[SIX];
        final int[] lengths = new int[SIX];
        final int[] knots = new int[SIX];
        final int[] truths = new int[SIX];

        boolean isTold() {
            return houses > 0;
        }

        boolean hasHouse(int house) {
            return house >= 0 && house < houses;
        }

        boolean hasTale(int tale) {
            return tale >= 0 && tale < tales;
        }

        boolean hasBoth(int house, int tale) {
            return hasHouse(house) && hasTale(tale);
        }

        int allTales() {
            return (1 << tales) - 1;
        }

        boolean knows(int house, int tale) {
            return (known[house] >> tale & 1) != 0;
        }

        int trueBits() {
            int bits = 0;
            for (int tale = 0; tale < tales; tale++) {
                bits |= truths[tale] << tale;
            }
            return bits;
        }

        void become(Coast other) {
            houses = other.houses;
            tales = other.tales;
            bread = other.bread;
            owned = other.owned;
            at = other.at;
            often = other.often;
            System.arraycopy(other.known, 0, known, 0, SIX);
            System.arraycopy(other.curious, 0, curious, 0, SIX);
            System.arraycopy(other.warm, 0, warm, 0, SIX);
            System.arraycopy(other.lengths, 0, lengths, 0, SIX);
            System.arraycopy(other.knots, 0, knots, 0, SIX);
            System.arraycopy(other.truths, 0, truths, 0, SIX);
        }
    }

    /** Reads the tape as a coast into a draft, so that asking for a fault changes no coast. */
    private static final class CoastReader {
        /** The items of s, of h and of t, one behind the other: their letters, bounds, and what holds without. */
        private static final char[] LETTERS = {'b', 'm', 'a', 'o', 'k', 'c', 'w', 'l', 'k', 'r'};
        private static final int[] LOWS = {0, 0, 0, 0, 0, 0, 0, 1, 0, 0};
        private static final int[] HIGHS = {99, 63, 5, 9, 63, 9, 9, 9, 9, 1};
        private static final int[] WITHOUT = {20, 63, 0, 1, 0, 3, 2, 4, 2, 0};
        private static final int OF_RULES = 0;
        private static final int OF_HOUSE = 4;
        private static final int OF_TALE = 7;
        private static final int OF_ALL = 10;

        final Coast draft = new Coast();
        private final Tape tape;
        private final int[] items = new int[OF_ALL];
        private boolean ruled;

        CoastReader(Tape source) {
            tape = source;
        }

        /** The fault, or NONE. */
        int read() {
            tape.rewind();
            draft.houses = 0;
            draft.tales = 0;
            ruled = false;
            takeItemsWithout(OF_RULES, OF_HOUSE);
            keepRules();
            readClause();
            for (int i = 0; i < Tape.MOST && tape.takes(';'); i++) {
                readClause();
            }
            tape.demandEnd();
            if (draft.houses < 2 || draft.tales < 1 || draft.at >= draft.houses) {
                tape.fail(tape.size);
            }
            return tape.wrong;
        }

        private void readClause() {
            int kind = tape.peek();
            if (kind == 's' && !ruled) {
                ruled = true;
                readItems(OF_RULES, OF_HOUSE);
                keepRules();
            } else if (kind == 'h' && draft.houses < SIX) {
                readItems(OF_HOUSE, OF_TALE);
                keepHouse();
            } else if (kind == 't' && draft.tales < SIX) {
                readItems(OF_TALE, OF_ALL);
                keepTale();
            } else {
                tape.fail(tape.place);
            }
        }

        private void takeItemsWithout(int from, int to) {
            System.arraycopy(WITHOUT, from, items, from, to - from);
        }

        /** A letter that was there is left standing: what follows the clause is then at fault there. */
        private void readItems(int from, int to) {
            tape.place++;
            takeItemsWithout(from, to);
            int used = 0;
            for (int i = from; i < to; i++) {
                int item = itemAt(from, to, used);
                if (item == NONE) {
                    return;
                }
                tape.place++;
                used |= 1 << item;
                items[item] = tape.number(2, LOWS[item], HIGHS[item]);
            }
        }

        private int itemAt(int from, int to, int used) {
            int sign = tape.peek();
            for (int item = from; item < to; item++) {
                if (LETTERS[item] == sign && (used >> item & 1) == 0) {
                    return item;
                }
            }
            return NONE;
        }

        private void keepRules() {
            draft.bread = items[0];
            draft.owned = items[1];
            draft.at = items[2];
            draft.often = items[3];
        }

        private void keepHouse() {
            int house = draft.houses;
            draft.known[house] = items[OF_HOUSE];
            draft.curious[house] = items[OF_HOUSE + 1];
            draft.warm[house] = items[OF_HOUSE + 2];
            draft.houses++;
        }

        private void keepTale() {
            int tale = draft.tales;
            draft.lengths[tale] = items[OF_TALE];
            draft.knots[tale] = items[OF_TALE + 1];
            draft.truths[tale] = items[OF_TALE + 2];
            draft.tales++;
        }
    }

    /**
     * Reads the tape as a law and writes it down operands first, so that it is weighed without reading it anew.
     * A code is the sign that made it, with a value above; each needs a byte of its own, so that they fit.
     */
    private static final class LawReader {
        static final int NUMBER = '0';
        static final int LETTER = 'l';
        static final int WHEN = '?';
        static final int YIELD = 'y';
        static final int SIGN_BITS = 7;
        static final int SIGN_MASK = 127;
        private static final char[] LETTERS = {'l', 'k', 'c', 'n', 'w', 'r'};
        private static final int DEEPEST = 6;

        final int[] codes = new int[Tape.MOST];
        int size;
        private final Tape tape;

        LawReader(Tape source) {
            tape = source;
        }

        /** The fault, or NONE. */
        int read() {
            tape.rewind();
            size = 0;
            readClause();
            for (int i = 0; i < Tape.MOST && tape.takes(';'); i++) {
                readClause();
            }
            tape.demandEnd();
            return tape.wrong;
        }

        private void write(int sign, int value) {
            if (size < codes.length) {
                codes[size] = value << SIGN_BITS | sign;
                size++;
            }
        }

        private void readClause() {
            tape.demand('y');
            tape.demand(':');
            int sign = tape.peek();
            boolean begun = sign != '!' && sign != '(';
            if (begun) {
                readSum(0);
            }
            if (!begun || isComparison(tape.peek())) {
                readCondition(0, begun);
                tape.demand('?');
                write(WHEN, 0);
                readSum(0);
            }
            write(YIELD, 0);
        }

        private static boolean isComparison(int sign) {
            return sign == '=' || sign == '<' || sign == '>';
        }

        /** Begun: its first sum is read already, as only the sign behind it showed that it is a condition. */
        private void readCondition(int depth, boolean begun) {
            readTruth(depth, begun);
            for (int i = 0; i < Tape.MOST && tape.takes('|'); i++) {
                readTruth(depth, false);
                write('|', 0);
            }
        }

        private void readTruth(int depth, boolean begun) {
            readUnit(depth, begun);
            for (int i = 0; i < Tape.MOST && tape.takes('&'); i++) {
                readUnit(depth, false);
                write('&', 0);
            }
        }

        private void readUnit(int depth, boolean begun) {
            int sign = begun ? 0 : tape.peek();
            if (sign == '!') {
                if (goesDeeper(depth)) {
                    readUnit(depth + 1, false);
                    write('!', 0);
                }
            } else if (sign == '(') {
                if (goesDeeper(depth)) {
                    readCondition(depth + 1, false);
                    tape.demand(')');
                }
            } else {
                if (!begun) {
                    readSum(depth);
                }
                int comparison = tape.peek();
                if (isComparison(comparison)) {
                    tape.place++;
                } else {
                    tape.fail(tape.place);
                }
                readSum(depth);
                write(comparison, 0);
            }
        }

        private boolean goesDeeper(int depth) {
            if (depth >= DEEPEST) {
                tape.fail(tape.place);
                return false;
            }
            tape.place++;
            return true;
        }

        private void readSum(int depth) {
            readTerm(depth);
            for (int i = 0; i < Tape.MOST; i++) {
                int sign = tape.peek();
                if (sign != '+' && sign != '-') {
                    return;
                }
                tape.place++;
                readTerm(depth);
                write(sign, 0);
            }
        }

        private void readTerm(int depth) {
            readAtom(depth);
            for (int i = 0; i < Tape.MOST; i++) {
                int sign = tape.peek();
                if (sign != '*' && sign != '/') {
                    return;
                }
                tape.place++;
                readAtom(depth);
                write(sign, 0);
            }
        }

        private void readAtom(int depth) {
            int sign = tape.peek();
            if (sign >= '0' && sign <= '9') {
                write(NUMBER, tape.number(4, 0, 9999));
            } else if (sign == '[') {
                if (goesDeeper(depth)) {
                    readSum(depth + 1);
                    tape.demand(']');
                }
            } else {
                readLetter(sign);
            }
        }

        private void readLetter(int sign) {
            for (int i = 0; i < LETTERS.length; i++) {
                if (LETTERS[i] == sign) {
                    tape.place++;
                    write(LETTER, i);
                    return;
                }
            }
            tape.fail(tape.place);
        }
    }

    /** The laws that were told, which of them holds, and what a tale is worth by it. */
    private static final class Laws {
        static final int MOST = 4;
        private static final int FARTHEST = 1000000;
        /** A law holds 18 numbers back at most: two a sign of nesting, and six more. */
        private static final int STACK = 32;

        int known;
        int holding = NONE;
        /** l k c n w r, set ahead of each weighing. */
        final int[] letters = new int[SIX];
        private final int[] codes = new int[MOST * Tape.MOST];
        private final int[] sizes = new int[MOST];
        private final int[] stack = new int[STACK];

        void add(int[] source, int size) {
            if (known < MOST && size <= Tape.MOST && size <= source.length) {
                System.arraycopy(source, 0, codes, known * Tape.MOST, size);
                sizes[known] = size;
                known++;
            }
        }

        /** By the law that holds: the first clause that does yields; one that does not is passed over to its end. */
        int worth() {
            if (holding < 0 || holding >= known) {
                return 0;
            }
            int from = holding * Tape.MOST;
            int to = from + sizes[holding];
            int top = 0;
            boolean passing = false;
            for (int i = from; i < to; i++) {
                int sign = codes[i] & LawReader.SIGN_MASK;
                if (passing) {
                    passing = sign != LawReader.YIELD;
                } else if (sign == LawReader.NUMBER || sign == LawReader.LETTER) {
                    if (top >= STACK) {
                        return 0;
                    }
                    stack[top] = operand(sign, codes[i] >> LawReader.SIGN_BITS);
                    top++;
                } else if (top == 0 || sign == LawReader.YIELD) {
                    return top == 0 ? 0 : stack[top - 1];
                } else if (sign == '!') {
                    stack[top - 1] = 1 - stack[top - 1];
                } else {
                    top--;
                    if (sign == LawReader.WHEN) {
                        passing = stack[top] == 0;
                    } else if (top > 0) {
                        stack[top - 1] = joined(sign, stack[top - 1], stack[top]);
                    }
                }
            }
            return 0;
        }

        private int operand(int sign, int value) {
            if (sign == LawReader.NUMBER) {
                return value;
            }
            return value >= 0 && value < SIX ? letters[value] : 0;
        }

        private static int joined(int sign, int left, int right) {
            switch (sign) {
                case '+':
                    return held(left + right);
                case '-':
                    return held(left - right);
                case '*':
                    return held((long) left * right);
                case '/':
                    return right == 0 ? 0 : left / right;
                case '=':
                    return left == right ? 1 : 0;
                case '<':
                    return left < right ? 1 : 0;
                case '>':
                    return left > right ? 1 : 0;
                case '&':
                    return left & right;
                default:
                    return left | right;
            }
        }

        private static int held(long value) {
            if (value > FARTHEST) {
                return FARTHEST;
            }
            return value < -FARTHEST ? -FARTHEST : (int) value;
        }
    }

    /** How it stands now: all that acts change. */
    private static final class Stand {
        static final int MOST_BREAD = 999;
        static final int LAST_DAY = 9999;
        static final int MOST_HEARD = 99;
        static final int MOST_LOG = 60;
        /** More than the log shows: so many may come back when the latest ones are undone. */
        static final int LOG_ROOM = MOST_LOG + Past.MOST;
        private static final int NUMBERS = 7;
        static final int SIZE = NUMBERS + SIX + CELLS;

        int at;
        int owned;
        int bread;
        int day;
        int nightsInAll;
        int putOut;
        int logged;
        final int[] knots = new int[SIX];
        final int[] heard = new int[CELLS];
        final int[] tellings = new int[LOG_ROOM];

        void begin(Coast coast) {
            at = coast.at;
            owned = coast.owned & coast.allTales();
            bread = coast.bread;
            day = 0;
            nightsInAll = 0;
            putOut = 0;
            logged = 0;
            System.arraycopy(coast.knots, 0, knots, 0, SIX);
            Arrays.fill(heard, 0);
            for (int house = 0; house < coast.houses; house++) {
                for (int tale = 0; tale < coast.tales; tale++) {
                    heard[house * SIX + tale] = coast.knows(house, tale) ? 1 : 0;
                }
            }
        }

        boolean owns(int tale) {
            return (owned >> tale & 1) != 0;
        }

        boolean hasDays(int days) {
            return day + days <= LAST_DAY;
        }

        int farTo(int house) {
            return Math.abs(house - at);
        }

        int heardBits(int house) {
            int bits = 0;
            for (int tale = 0; tale < SIX; tale++) {
                if (heard[house * SIX + tale] > 0) {
                    bits |= 1 << tale;
                }
            }
            return bits;
        }

        static int heardOnceMore(int times) {
            return Math.min(times + 1, MOST_HEARD);
        }

        static int daysOf(int stay) {
            return Math.max(stay, 1);
        }

        static int breadAfter(int bread, int stay) {
            return stay == 0 ? Math.max(bread - 1, 0) : Math.min(bread + stay / 3, MOST_BREAD);
        }

        void walkTo(int house) {
            int far = farTo(house);
            day += far;
            bread -= far;
            at = house;
        }

        void tellHere(int tale, int stay) {
            int cell = at * SIX + tale;
            heard[cell] = heardOnceMore(heard[cell]);
            day += daysOf(stay);
            bread = breadAfter(bread, stay);
            nightsInAll += stay;
            if (stay == 0) {
                putOut++;
            }
            tellings[logged % LOG_ROOM] = at * 1000 + tale * 100 + stay;
            logged++;
        }

        int logSize() {
            return Math.min(logged, MOST_LOG);
        }

        /** The latest is 0; only for one that the log shows. */
        int telling(int i) {
            int place = logged - 1 - i;
            return place >= 0 ? tellings[place % LOG_ROOM] : 0;
        }

        /** But for the tellings: those ahead of it are still there when a row is taken back. */
        void save(int[] rows, int from) {
            rows[from] = at;
            rows[from + 1] = owned;
            rows[from + 2] = bread;
            rows[from + 3] = day;
            rows[from + 4] = nightsInAll;
            rows[from + 5] = putOut;
            rows[from + 6] = logged;
            System.arraycopy(knots, 0, rows, from + NUMBERS, SIX);
            System.arraycopy(heard, 0, rows, from + NUMBERS + SIX, CELLS);
        }

        void load(int[] rows, int from) {
            at = rows[from];
            owned = rows[from + 1];
            bread = rows[from + 2];
            day = rows[from + 3];
            nightsInAll = rows[from + 4];
            putOut = rows[from + 5];
            logged = rows[from + 6];
            System.arraycopy(rows, from + NUMBERS, knots, 0, SIX);
            System.arraycopy(rows, from + NUMBERS + SIX, heard, 0, CELLS);
        }
    }

    /** How it stood ahead of the latest acts, in a ring of rows, and the image. */
    private static final class Past {
        static final int MOST = 40;

        int kept;
        boolean imaged;
        private int next;
        private final int[] rows = new int[MOST * Stand.SIZE];
        private final int[] imageRow = new int[Stand.SIZE];
        private final int[] imageTellings = new int[Stand.LOG_ROOM];

        void forget() {
            kept = 0;
            imaged = false;
        }

        void keep(Stand stand) {
            stand.save(rows, next * Stand.SIZE);
            next = (next + 1) % MOST;
            kept = Math.min(kept + 1, MOST);
        }

        void takeBack(Stand stand) {
            if (kept > 0) {
                next = (next + MOST - 1) % MOST;
                kept--;
                stand.load(rows, next * Stand.SIZE);
            }
        }

        void keepImage(Stand stand) {
            stand.save(imageRow, 0);
            System.arraycopy(stand.tellings, 0, imageTellings, 0, Stand.LOG_ROOM);
            imaged = true;
        }

        void takeImage(Stand stand) {
            stand.load(imageRow, 0);
            System.arraycopy(imageTellings, 0, stand.tellings, 0, Stand.LOG_ROOM);
            kept = 0;
        }
    }

    /** How many nights a tale holds in a house. */
    private static final class Stays {
        private final Coast coast;
        private final Stand stand;
        private final Laws laws;

        Stays(Coast told, Stand standing, Laws book) {
            coast = told;
            stand = standing;
            laws = book;
        }

        int now(int house, int tale) {
            return by(house, tale, stand.heard[house * SIX + tale], stand.knots[tale]);
        }

        int onceMore(int house, int tale) {
            int heard = Stand.heardOnceMore(stand.heard[house * SIX + tale]);
            return by(house, tale, heard, stand.knots[tale]);
        }

        int asTold(int house, int tale) {
            return by(house, tale, coast.knows(house, tale) ? 1 : 0, coast.knots[tale]);
        }

        int by(int house, int tale, int heard, int knots) {
            laws.letters[0] = coast.lengths[tale];
            laws.letters[1] = knots;
            laws.letters[2] = coast.curious[house];
            laws.letters[3] = heard;
            laws.letters[4] = coast.warm[house];
            laws.letters[5] = coast.truths[tale];
            int worth = laws.holding == NONE ? worthWithoutLaw(house, tale, heard, knots) : laws.worth();
            return Math.max(0, Math.min(worth, MOST_NIGHTS));
        }

        private int worthWithoutLaw(int house, int tale, int heard, int knots) {
            int length = heard < coast.often ? coast.lengths[tale] : 0;
            return length + knots + coast.curious[house] / 3 + 2 * coast.truths[tale] - heard;
        }
    }

    /** What was seen of somebody with one tale, which tale that may be, and where to ask next. */
    private static final class Guess {
        static final int MOST = 10;

        int sights;
        private final Coast coast;
        private final Stays stays;
        private final int[] houses = new int[MOST];
        private final int[] bounds = new int[MOST];
        private final boolean[] reached = new boolean[MOST];

        Guess(Coast told, Stays staying) {
            coast = told;
            stays = staying;
        }

        void add(int house, int bound, boolean is) {
            if (sights < MOST) {
                houses[sights] = house;
                bounds[sights] = bound;
                reached[sights] = is;
                sights++;
            }
        }

        int fitting() {
            int bits = 0;
            for (int tale = 0; tale < coast.tales; tale++) {
                if (fits(tale)) {
                    bits |= 1 << tale;
                }
            }
            return bits;
        }

        private boolean fits(int tale) {
            for (int i = 0; i < sights; i++) {
                if (stays.asTold(houses[i], tale) >= bounds[i] != reached[i]) {
                    return false;
                }
            }
            return true;
        }

        static int bitAt(int bits, int i) {
            int left = i;
            for (int bit = 0; bit < SIX; bit++) {
                if ((bits >> bit & 1) != 0) {
                    if (left == 0) {
                        return bit;
                    }
                    left--;
                }
            }
            return NONE;
        }

        int houseToAsk(int bound, int bits) {
            int found = NONE;
            int least = SIX + 1;
            for (int house = 0; house < coast.houses && bits != 0; house++) {
                int apart = apartIn(house, bound, bits);
                if (apart < least) {
                    least = apart;
                    found = house;
                }
            }
            return found;
        }

        private int apartIn(int house, int bound, int bits) {
            int more = 0;
            for (int tale = 0; tale < coast.tales; tale++) {
                if ((bits >> tale & 1) != 0) {
                    more += stays.asTold(house, tale) >= bound ? 1 : -1;
                }
            }
            return Math.abs(more);
        }
    }

    /** What he could do from as it is now; nothing of it is done. */
    private static final class Plans {
        private static final int NO_TALE = 9;
        private static final int SETS = 1 << SIX;

        int bestTale;
        int bestStay;
        int row;
        int sum;
        int roundTellings;
        int roundNights;
        int roundBread;
        private final Coast coast;
        private final Stand stand;
        private final Stays stays;
        private final int[] now = new int[CELLS];
        private final int[] onceMore = new int[CELLS];
        private final int[] roundHeard = new int[CELLS];
        private final int[] mostFrom = new int[(SIX + 1) * SETS];

        Plans(Coast told, Stand standing, Stays staying) {
            coast = told;
            stand = standing;
            stays = staying;
        }

        void findBest(int house, int[] heard) {
            bestTale = NONE;
            bestStay = NONE;
            for (int tale = 0; tale < coast.tales; tale++) {
                if (stand.owns(tale)) {
                    int stay = stays.by(house, tale, heard[house * SIX + tale], stand.knots[tale]);
                    if (stay > bestStay) {
                        bestStay = stay;
                        bestTale = tale;
                    }
                }
            }
        }

        private void weighAll() {
            for (int house = 0; house < coast.houses; house++) {
                for (int tale = 0; tale < coast.tales; tale++) {
                    now[house * SIX + tale] = stays.now(house, tale);
                }
            }
        }

        /** Rows are tried from the least up, so that of several the least stays. */
        void findTwo() {
            row = NONE;
            sum = NONE;
            weighAll();
            for (int house = 0; house < coast.houses; house++) {
                for (int tale = 0; tale < coast.tales; tale++) {
                    if (stand.owns(tale) && stand.farTo(house) <= stand.bread) {
                        onceMore[house * SIX + tale] = stays.onceMore(house, tale);
                        trySecondsBehind(house, tale);
                    }
                }
            }
        }

        private void trySecondsBehind(int house, int tale) {
            int cell = house * SIX + tale;
            int bread = Stand.breadAfter(stand.bread - stand.farTo(house), now[cell]);
            for (int other = 0; other < coast.houses; other++) {
                if (Math.abs(other - house) <= bread) {
                    trySecondsIn(other, cell);
                }
            }
        }

        private void trySecondsIn(int house, int firstCell) {
            for (int tale = 0; tale < coast.tales; tale++) {
                if (stand.owns(tale)) {
                    int cell = house * SIX + tale;
                    int both = now[firstCell] + (cell == firstCell ? onceMore[cell] : now[cell]);
                    if (both > sum) {
                        sum = both;
                        row = digitsOf(firstCell) * 100 + digitsOf(cell);
                    }
                }
            }
        }

        private static int digitsOf(int cell) {
            return cell / SIX * 10 + cell % SIX;
        }

        /** From the last house back: the most nights from a house on, by which tales are used ahead of it. */
        void findPlaces() {
            weighAll();
            Arrays.fill(mostFrom, 0);
            for (int house = coast.houses - 1; house >= 0; house--) {
                for (int used = 0; used <= coast.allTales(); used++) {
                    mostFrom[house * SETS + used] = nightsBy(house, used, placeFor(house, used));
                }
            }
            sum = mostFrom[0];
            row = 0;
            int used = 0;
            for (int house = 0; house < coast.houses; house++) {
                int tale = placeFor(house, used);
                row = row * 10 + tale;
                used = with(used, tale);
            }
        }

        private static int with(int used, int tale) {
            return tale == NO_TALE ? used : used | 1 << tale;
        }

        private int nightsBy(int house, int used, int tale) {
            int here = tale == NO_TALE ? 0 : now[house * SIX + tale];
            return here + mostFrom[(house + 1) * SETS + with(used, tale)];
        }

        /** No tale is the highest digit: it comes only if it is worth more than each tale. */
        private int placeFor(int house, int used) {
            int found = NO_TALE;
            int most = NONE;
            for (int tale = 0; tale < coast.tales; tale++) {
                if (stand.owns(tale) && (used >> tale & 1) == 0) {
                    int nights = nightsBy(house, used, tale);
                    if (nights > most) {
                        most = nights;
                        found = tale;
                    }
                }
            }
            return nightsBy(house, used, NO_TALE) > most ? NO_TALE : found;
        }

        int fewestFor(int bound) {
            weighAll();
            int found = NONE;
            int least = SIX + 1;
            for (int tales = 1; tales <= coast.allTales(); tales++) {
                int size = Integer.bitCount(tales);
                if (size < least && servesAll(tales, bound)) {
                    least = size;
                    found = tales;
                }
            }
            return found;
        }

        private boolean servesAll(int tales, int bound) {
            for (int house = 0; house < coast.houses; house++) {
                if (!serves(tales, house, bound)) {
                    return false;
                }
            }
            return true;
        }

        private boolean serves(int tales, int house, int bound) {
            for (int tale = 0; tale < coast.tales; tale++) {
                if ((tales >> tale & 1) != 0 && now[house * SIX + tale] >= bound) {
                    return true;
                }
            }
            return false;
        }

        private int nightsIn(int house) {
            int nights = 0;
            for (int tale = 0; tale < coast.tales; tale++) {
                if (stand.owns(tale)) {
                    nights += stays.now(house, tale);
                }
            }
            return nights;
        }

        int dullest() {
            int found = 0;
            int least = nightsIn(0);
            for (int house = 1; house < coast.houses; house++) {
                int nights = nightsIn(house);
                if (nights < least) {
                    least = nights;
                    found = house;
                }
            }
            return found;
        }

        int allNights() {
            int nights = 0;
            for (int house = 0; house < coast.houses; house++) {
                nights += nightsIn(house);
            }
            return nights;
        }

        int holdingHouses() {
            int found = 0;
            for (int house = 0; house < coast.houses; house++) {
                if (nightsIn(house) > 0) {
                    found++;
                }
            }
            return found;
        }

        void goRound() {
            roundTellings = 0;
            roundNights = 0;
            roundBread = stand.bread;
            System.arraycopy(stand.heard, 0, roundHeard, 0, CELLS);
            int last = coast.houses - 1;
            int house = stand.at;
            int step = house < last ? 1 : -1;
            for (int i = 0; i < 2 * SIX; i++) {
                tellBestOnRound(house);
                if (roundBread < 1 || house == 0 && step < 0) {
                    return;
                }
                roundBread--;
                house += step;
                if (house == last) {
                    step = -1;
                }
            }
        }

        private void tellBestOnRound(int house) {
            findBest(house, roundHeard);
            if (bestTale == NONE) {
                return;
            }
            int cell = house * SIX + bestTale;
            roundHeard[cell] = Stand.heardOnceMore(roundHeard[cell]);
            roundTellings++;
            roundNights += bestStay;
            roundBread = Stand.breadAfter(roundBread, bestStay);
        }
    }

    /** Two tellers in one house, and the pairs of tales at which both rest. */
    private static final class Duel {
        private static final int LESS_NIGHTS = 3;
        private static final int NO_SUCH_TALE = 5;

        private final Coast coast;
        private final Stays stays;
        private final int[] now = new int[SIX];
        private final int[] onceMore = new int[SIX];

        Duel(Coast told, Stays staying) {
            coast = told;
            stays = staying;
        }

        /** A tale that there is not has no nights. */
        void standIn(int house) {
            for (int tale = 0; tale < SIX; tale++) {
                boolean is = coast.hasTale(tale);
                now[tale] = is ? stays.now(house, tale) : 0;
                onceMore[tale] = is ? stays.onceMore(house, tale) : 0;
            }
        }

        private int secondStay(int x, int y) {
            return x == y ? onceMore[y] : now[y];
        }

        int firstHas(int x, int y) {
            return has(x, now[x], secondStay(x, y));
        }

        int secondHas(int x, int y) {
            return has(y, secondStay(x, y), now[x]);
        }

        private int has(int tale, int own, int other) {
            int less = other > own ? LESS_NIGHTS : 0;
            return own - less - (coast.hasTale(tale) ? 0 : NO_SUCH_TALE);
        }

        private boolean isQuiet(int x, int y) {
            int first = firstHas(x, y);
            int second = secondHas(x, y);
            for (int tale = 0; tale < coast.tales; tale++) {
                if (firstHas(tale, y) > first || secondHas(x, tale) > second) {
                    return false;
                }
            }
            return true;
        }

        /** The i-th quiet pair, or how many there are (i NONE). */
        int quietPair(int i) {
            int found = 0;
            for (int x = 0; x < coast.tales; x++) {
                for (int y = 0; y < coast.tales; y++) {
                    if (isQuiet(x, y)) {
                        if (found == i) {
                            return 10 * x + y;
                        }
                        found++;
                    }
                }
            }
            return i == NONE ? found : NONE;
        }
    }
}
