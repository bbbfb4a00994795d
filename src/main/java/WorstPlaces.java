import java.util.NoSuchElementException;

/** Places along a road, their counts by years, and how much of a fall behind a box is luck alone. */
public final class WorstPlaces {
    public static final int NONE = -1;

    private static final int NOT_ONE = Integer.MIN_VALUE;
    private static final int NOT_SO_MANY = -2;
    private static final int ALL_ZERO = -2;

    private static final int TAPE_MOST = 600;
    private static final int FED_AT_ONCE = 20;
    private static final int KINDS_MOST = 5;
    private static final int PLACES_MOST = 12;
    private static final int NOTES_MOST = 150;
    private static final int KNOTS_MOST = 64;
    private static final int OPEN_MOST = 8;
    private static final int COIN_MOST = 99;
    private static final int DRAWS_MOST = 500;
    private static final int FACES = 10;
    private static final int YEARS = 9;
    private static final int YEARS_AT_ONCE = 6;
    private static final int THREE = 3;
    private static final int FIRST_FALL = 3;
    private static final int LAST_FALL = 6;

    private static final int FINE = 0;
    private static final int WRONG = 1;
    private static final int TOO_MUCH = 2;
    private static final int TOLD_ALREADY = 3;

    private final Reader reader = new Reader();
    private Road road = new Road();
    private Road spare = new Road();
    private final Odds odds = new Odds();
    private final Luck luck = new Luck();
    private final Falls falls = new Falls();
    private final House beside = new House();
    private final Poles choice = new Poles();

    public WorstPlaces() {
    }

    public int feed(int a, int b, int c, int d, int e) {
        Tape tape = reader.tape;
        if (tape.fed + FED_AT_ONCE > TAPE_MOST) {
            return NONE;
        }
        tape.put(a);
        tape.put(b);
        tape.put(c);
        tape.put(d);
        tape.put(e);
        return tape.fed;
    }

    public int text(int n) {
        if (n < 0 || n > reader.tape.fed) {
            return NOT_SO_MANY;
        }
        // Read beside the old one, which stays as it is if there is a fault.
        if (!reader.read(n, spare)) {
            return NONE;
        }
        Road old = road;
        road = spare;
        spare = old;
        luck.forget();
        return road.lines;
    }

    public int fault(int what) {
        switch (what) {
            case 0: return reader.found;
            case 1: return reader.foundAt;
            default: return NONE;
        }
    }

    public int named(int what, int letters) {
        switch (what) {
            case 0: return find(road.kinds.names, road.kinds.many, letters);
            case 1: return find(road.names, road.places, letters);
            default: return NONE;
        }
    }

    public int look(int place, int what) throws IndexOutOfBoundsException, NoSuchElementException {
        if (!road.has(place)) {
            throw new IndexOutOfBoundsException("no such place");
        }
        switch (what) {
            case 0: return road.counties[place];
            case 1: return road.lots[place] ? 1 : 0;
            case 2: return road.boxes[place];
            case 3: return road.worksYears[place];
            case 4: return road.worksShares[place];
            case 5: return road.coins[place];
            default: throw new NoSuchElementException("no such what");
        }
    }

    public int note(int place, int year, int count) {
        if (!road.has(place) || !isWithin(year, 0, YEARS - 1) || !isWithin(count, 0, 9)) {
            return NONE;
        }
        return road.notes.add(place, year, count, NONE);
    }

    public int strike(int note) {
        if (!isWithin(note, 0, road.notes.many - 1)) {
            return NONE;
        }
        return road.notes.add(NONE, NONE, NONE, note);
    }

    public boolean known(int n) {
        if (!isWithin(n, NONE, road.notes.many)) {
            return false;
        }
        road.notes.limitTo(n);
        return true;
    }

    public int count(int place, int year) {
        return road.has(place) ? road.notes.at(place, year) : NONE;
    }

    public long likely(int kind, int place, int a, int b) {
        if (!isWithin(kind, 0, road.kinds.many - 1) || !road.has(place) || !areYears(a, b)) {
            return NONE;
        }
        return odds.weigh(road, kind, place, a, b);
    }

    public long rate(int place, int a, int b, int what) {
        if (!road.has(place) || !areYears(a, b) || !isWithin(what, 0, 1)) {
            return NONE;
        }
        odds.seekRate(road, place, a, b);
        return what == 0 ? odds.above : odds.below;
    }

    public int span(int place, int a, int b, int what) {
        if (!road.has(place) || !areYears(a, b) || !isWithin(what, 0, 1)) {
            return NONE;
        }
        if (!odds.seekSpan(road, place, a, b)) {
            return ALL_ZERO;
        }
        return what == 0 ? odds.leastMean : odds.greatestMean;
    }

    public long worse(int one, int other, int a, int b, int what) {
        if (!road.has(one) || !road.has(other) || one == other || !areYears(a, b) || !isWithin(what, 0, 1)) {
            return NONE;
        }
        odds.compare(road, one, other, a, b);
        return what == 0 ? odds.above : odds.below;
    }

    public int taken(int year) {
        return isWithin(year, THREE, YEARS) ? road.takenIn(year) : NONE;
    }

    public long law(int county, int what) {
        if (!isWithin(county, 0, 9)) {
            return NONE;
        }
        luck.applyLaw(road, county);
        switch (what) {
            case 0: return luck.takes;
            case 1: return 1000L * road.kinds.allWeights;
            case 2: return luck.had;
            case 3: return luck.hasInTenths;
            case 4: return luck.ofHundred();
            default: return NONE;
        }
    }

    public int fall(int place, int what) {
        if (!road.has(place) || !falls.part(road, place)) {
            return NOT_ONE;
        }
        switch (what) {
            case 0: return falls.before;
            case 1: return falls.after;
            case 2: return falls.luck;
            case 3: return falls.land;
            case 4: return falls.works;
            case 5: return falls.box;
            case 6: return falls.moved;
            case 7: return falls.box - falls.moved;
            case 8: return falls.back;
            default: return NOT_ONE;
        }
    }

    public int lot(int county, int year, int what) {
        if (!isWithin(county, 0, 9) || !isWithin(year, FIRST_FALL, LAST_FALL)) {
            return NOT_ONE;
        }
        falls.seekDealt(road, county, year);
        switch (what) {
            case 0: return (int) falls.odds.above;
            case 1: return (int) falls.odds.below;
            case 2: return falls.with;
            case 3: return falls.without;
            default: return NOT_ONE;
        }
    }

    public int chose(int year, int what) {
        if (!isWithin(year, FIRST_FALL, LAST_FALL) || !isWithin(what, 0, 1)) {
            return NOT_ONE;
        }
        falls.seekChosen(road, year);
        return (int) (what == 0 ? falls.odds.above : falls.odds.below);
    }

    public int house(int place, int what) {
        if (!road.has(place) || !beside.seek(road.notes, place, road.boxes[place])) {
            return NOT_ONE;
        }
        switch (what) {
            case 0: return beside.greatest;
            case 1: return beside.least;
            case 2: return beside.years;
            case 3: return beside.ahead;
            case 4: return beside.behind;
            default: return NOT_ONE;
        }
    }

    public boolean coin(int place, int coin) {
        if (!road.has(place) || !isWithin(coin, 0, COIN_MOST)) {
            return false;
        }
        road.coins[place] = coin;
        return true;
    }

    public int poles(int k, int by, int what) {
        if (!isWithin(k, 0, road.places) || !isWithin(by, 0, 1) || !isWithin(what, 0, 2)) {
            return NONE;
        }
        choice.seekRates(road);
        int bits = choice.best(k, by == 0);
        switch (what) {
            case 0: return bits;
            case 1: return choice.saved(bits);
            default: return choice.brought(bits);
        }
    }

    public int never() {
        int seen = 0;
        for (int year = THREE; year <= YEARS; year++) {
            seen |= road.takenIn(year);
        }
        choice.seekRates(road);
        return choice.aboveSomeBox(road) & ~seen;
    }

    public int draws(int seed, int many, int what) {
        if (seed < 0 || !isWithin(many, 1, DRAWS_MOST) || !isWithin(what, 0, 1) || road.kinds.many == 0) {
            return NOT_ONE;
        }
        luck.deal(road, seed, many);
        return what == 0 ? luck.dealtTaken : luck.dealtFall;
    }

    public int number(int what) {
        switch (what) {
            case 0: return road.kinds.many;
            case 1: return road.places;
            case 2: return road.notes.many;
            case 3: return road.notes.byHowMany();
            case 4: return road.rule.size;
            case 5: return road.saves;
            case 6: return road.moves;
            default: return NONE;
        }
    }

    private static boolean areYears(int a, int b) {
        return a >= 0 && a <= b && b < YEARS && b - a < YEARS_AT_ONCE;
    }

    private static boolean isWithin(int value, int least, int most) {
        return value >= least && value <= most;
    }

    private static int find(int[] names, int many, int name) {
        for (int i = 0; i < many && i < names.length; i++) {
            if (names[i] == name) {
                return i;
            }
        }
        return NONE;
    }

    /** The bytes fed, cut into tokens; it stands at one of them. */
    private static final class Tape {
        static final int END = 0;
        static final int WORD = 1;
        static final int DIGITS = 2;
        static final int SIGN = 3;
        static final int BAD = 4;

        // Signs of one byte are their byte; these lie above all bytes.
        static final int AT_MOST = 256;
        static final int UNLIKE = 257;
        static final int AT_LEAST = 258;

        // Words are packed as named() is told them, which puts all of them above all signs.
        static final int KIND = 'k' - 96 << 25 | 'i' - 96 << 20 | 'n' - 96 << 15 | 'd' - 96 << 10;
        static final int PLACE = 'p' - 96 << 25 | 'l' - 96 << 20 | 'a' - 96 << 15 | 'c' - 96 << 10 | 'e' - 96 << 5;
        static final int LOT = 'l' - 96 << 25 | 'o' - 96 << 20 | 't' - 96 << 15;
        static final int BOX = 'b' - 96 << 25 | 'o' - 96 << 20 | 'x' - 96 << 15;
        static final int WORKS = 'w' - 96 << 25 | 'o' - 96 << 20 | 'r' - 96 << 15 | 'k' - 96 << 10 | 's' - 96 << 5;
        static final int TAKE = 't' - 96 << 25 | 'a' - 96 << 20 | 'k' - 96 << 15 | 'e' - 96 << 10;
        static final int SAVES = 's' - 96 << 25 | 'a' - 96 << 20 | 'v' - 96 << 15 | 'e' - 96 << 10 | 's' - 96 << 5;
        static final int OR = 'o' - 96 << 25 | 'r' - 96 << 20;
        static final int AND = 'a' - 96 << 25 | 'n' - 96 << 20 | 'd' - 96 << 15;
        static final int NOT = 'n' - 96 << 25 | 'o' - 96 << 20 | 't' - 96 << 15;
        static final int ONE = 'o' - 96 << 25 | 'n' - 96 << 20 | 'e' - 96 << 15;
        static final int TWO = 't' - 96 << 25 | 'w' - 96 << 20 | 'o' - 96 << 15;
        static final int THIRD = 't' - 96 << 25 | 'h' - 96 << 20 | 'r' - 96 << 15 | 'e' - 96 << 10 | 'e' - 96 << 5;
        static final int SUM = 's' - 96 << 25 | 'u' - 96 << 20 | 'm' - 96 << 15;
        static final int MOST = 'm' - 96 << 25 | 'o' - 96 << 20 | 's' - 96 << 15 | 't' - 96 << 10;
        static final int LEAST = 'l' - 96 << 25 | 'e' - 96 << 20 | 'a' - 96 << 15 | 's' - 96 << 10 | 't' - 96 << 5;
        static final int COUNTY =
            'c' - 96 << 25 | 'o' - 96 << 20 | 'u' - 96 << 15 | 'n' - 96 << 10 | 't' - 96 << 5 | 'y' - 96;

        private static final int LETTERS_MOST = 6;
        // Above every limit of the language, so that long rows of digits can't run over.
        private static final int LARGE = 1000;

        private final byte[] bytes = new byte[TAPE_MOST];
        int fed = 0;
        private int size = 0;
        private int at = 0;
        int sort = END;
        int value = 0;
        int place = 0;

        void put(int four) {
            for (int shift = 24; shift >= 0 && fed >= 0 && fed < bytes.length; shift -= 8) {
                bytes[fed] = (byte) (four >> shift);
                fed++;
            }
        }

        /** Stands at the first token of the first n bytes; no more are fed to these. */
        void begin(int n) {
            size = Math.min(n, bytes.length);
            fed = 0;
            at = 0;
            step();
        }

        boolean isSign(int sign) {
            return sort == SIGN && value == sign;
        }

        boolean isWord(int word) {
            return sort == WORD && value == word;
        }

        void step() {
            while (at >= 0 && at < size && (bytes[at] == 10 || bytes[at] == 32)) {
                at++;
            }
            place = at;
            value = 0;
            int first = at >= 0 && at < size ? bytes[at] : 0;
            if (at >= size) {
                sort = END;
            } else if (first >= 'a' && first <= 'z') {
                stepWord();
            } else if (first >= '0' && first <= '9') {
                stepDigits();
            } else {
                stepSign(first);
            }
        }

        private void stepWord() {
            int letters = 0;
            for (; at >= 0 && at < size && bytes[at] >= 'a' && bytes[at] <= 'z'; at++) {
                letters++;
                if (letters <= LETTERS_MOST) {
                    value |= bytes[at] - 96 << 5 * (LETTERS_MOST - letters);
                }
            }
            sort = letters <= LETTERS_MOST ? WORD : BAD;
        }

        private void stepDigits() {
            for (; at >= 0 && at < size && bytes[at] >= '0' && bytes[at] <= '9'; at++) {
                int longer = 10 * value + bytes[at] - '0';
                value = longer > LARGE ? LARGE : longer;
            }
            sort = DIGITS;
        }

        private void stepSign(int first) {
            at++;
            int next = at >= 0 && at < size ? bytes[at] : 0;
            value = first;
            // A byte that is no sign at all is one that can stand nowhere: the fault is the same.
            sort = SIGN;
            if (first == '<' && next == '=') {
                value = AT_MOST;
            } else if (first == '<' && next == '>') {
                value = UNLIKE;
            } else if (first == '>' && next == '=') {
                value = AT_LEAST;
            }
            if (value != first) {
                at++;
            }
        }

        static boolean isOfLanguage(int word) {
            switch (word) {
                case KIND: case PLACE: case LOT: case BOX: case WORKS: case TAKE: case SAVES:
                case OR: case AND: case NOT:
                    return true;
                default:
                    return isOfCounts(word);
            }
        }

        static boolean isOfCounts(int word) {
            switch (word) {
                case ONE: case TWO: case THIRD: case SUM: case MOST: case LEAST: case COUNTY:
                    return true;
                default:
                    return false;
            }
        }
    }

    /** Kinds of roads. */
    private static final class Kinds {
        int many = 0;
        int allWeights = 0;
        final int[] names = new int[KINDS_MOST];
        final int[] weights = new int[KINDS_MOST];
        final int[] sums = new int[KINDS_MOST];
        private final int[] faces = new int[KINDS_MOST * FACES];
        private final int[] alike = new int[KINDS_MOST * FACES];

        void clear() {
            many = 0;
            allWeights = 0;
            for (int i = 0; i < KINDS_MOST; i++) {
                sums[i] = 0;
            }
            for (int i = 0; i < KINDS_MOST * FACES; i++) {
                alike[i] = 0;
            }
        }

        void putFace(int kind, int nth, int face) {
            if (kind >= 0 && kind < KINDS_MOST && nth >= 0 && nth < FACES && face >= 0 && face < FACES) {
                faces[kind * FACES + nth] = face;
                alike[kind * FACES + face]++;
                sums[kind] += face;
            }
        }

        int faceAt(int kind, int nth) {
            boolean stands = kind >= 0 && kind < KINDS_MOST && nth >= 0 && nth < FACES;
            return stands ? faces[kind * FACES + nth] : 0;
        }

        int howManyAre(int kind, int face) {
            boolean stands = kind >= 0 && kind < KINDS_MOST && face >= 0 && face < FACES;
            return stands ? alike[kind * FACES + face] : 0;
        }
    }

    /** What a text tells, and what is noted and told of its places since. */
    private static final class Road {
        final Kinds kinds = new Kinds();
        final Rule rule = new Rule();
        final Notes notes = new Notes();
        int lines = 0;
        boolean savesTold = false;
        int saves = 5;
        int moves = 0;
        int places = 0;
        final int[] names = new int[PLACES_MOST];
        final int[] counties = new int[PLACES_MOST];
        final boolean[] lots = new boolean[PLACES_MOST];
        final int[] boxes = new int[PLACES_MOST];
        final int[] worksYears = new int[PLACES_MOST];
        final int[] worksShares = new int[PLACES_MOST];
        final int[] coins = new int[PLACES_MOST];

        void clear() {
            kinds.clear();
            rule.size = 0;
            notes.clear();
            lines = 0;
            savesTold = false;
            saves = 5;
            moves = 0;
            places = 0;
            for (int i = 0; i < PLACES_MOST; i++) {
                lots[i] = false;
                boxes[i] = 0;
                worksYears[i] = NONE;
                worksShares[i] = 0;
                coins[i] = 0;
            }
        }

        boolean has(int place) {
            return place >= 0 && place < places && place < PLACES_MOST;
        }

        boolean hasNoBoxBy(int place, int year) {
            return has(place) && (boxes[place] == 0 || boxes[place] > year);
        }

        int takenIn(int year) {
            int bits = 0;
            for (int place = 0; place < PLACES_MOST && has(place); place++) {
                int one = notes.at(place, year - 3);
                int two = notes.at(place, year - 2);
                int three = notes.at(place, year - 1);
                boolean allKnown = one != NONE && two != NONE && three != NONE;
                if (allKnown && rule.takes(one, two, three, counties[place])) {
                    bits |= 1 << place;
                }
            }
            return bits;
        }
    }

    /** Reads a text as far as its first fault. */
    private static final class Reader {
        private static final int RANK_OR = 1;
        private static final int RANK_AND = 2;
        private static final int RANK_NOT = 3;
        private static final int RANK_COMPARE = 4;
        private static final int RANK_PLUS = 5;
        private static final int RANK_TIMES = 6;

        final Tape tape = new Tape();
        int found = FINE;
        int foundAt = NONE;

        // A sign of the rule waits on the pile till one comes that binds no more than it.
        private final int[] pile = new int[KNOTS_MOST + OPEN_MOST];
        private final boolean[] compared = new boolean[OPEN_MOST + 1];
        private int top = 0;
        private int open = 0;
        private int knots = 0;
        private boolean valueDue = true;
        private boolean notMayStand = true;

        boolean read(int n, Road road) {
            found = FINE;
            foundAt = NONE;
            road.clear();
            tape.begin(n);
            for (int i = 0; i < TAPE_MOST && tape.sort != Tape.END; i++) {
                boolean fine;
                if (tape.isWord(Tape.KIND)) {
                    fine = readKind(road.kinds);
                } else if (tape.isWord(Tape.PLACE)) {
                    fine = readPlace(road) && readMore(road, road.places - 1);
                } else if (tape.isWord(Tape.TAKE)) {
                    fine = readTake(road.rule);
                } else if (tape.isWord(Tape.SAVES)) {
                    fine = readSaves(road);
                } else {
                    fine = stop(WRONG);
                }
                if (!fine || !readEnd()) {
                    return false;
                }
                road.lines++;
            }
            return true;
        }

        private boolean readEnd() {
            if (!tape.isSign(';')) {
                return stop(WRONG);
            }
            tape.step();
            return true;
        }

        private boolean readKind(Kinds kinds) {
            int kind = kinds.many;
            if (kind < 0 || kind >= KINDS_MOST) {
                return stop(TOO_MUCH);
            }
            tape.step();
            if (!readName(kinds.names, kind)) {
                return false;
            }
            int weight = readNumber(1, 99);
            if (weight == NONE) {
                return false;
            }
            for (int i = 0; i < FACES; i++) {
                int face = readNumber(0, 9);
                if (face == NONE) {
                    return false;
                }
                kinds.putFace(kind, i, face);
            }
            kinds.weights[kind] = weight;
            kinds.allWeights += weight;
            kinds.many = kind + 1;
            return true;
        }

        private boolean readPlace(Road road) {
            int place = road.places;
            if (place < 0 || place >= PLACES_MOST) {
                return stop(TOO_MUCH);
            }
            tape.step();
            if (!readName(road.names, place)) {
                return false;
            }
            int county = readNumber(0, 9);
            if (county == NONE) {
                return false;
            }
            road.counties[place] = county;
            road.places = place + 1;
            return true;
        }

        private boolean readMore(Road road, int place) {
            // Each of the three comes once at most: a fourth one is a fault, or none of them.
            for (int i = 0; i <= 3 && road.has(place); i++) {
                boolean fine;
                if (tape.isWord(Tape.LOT)) {
                    fine = readLot(road, place);
                } else if (tape.isWord(Tape.BOX)) {
                    fine = readBox(road, place);
                } else if (tape.isWord(Tape.WORKS)) {
                    fine = readWorks(road, place);
                } else {
                    return true;
                }
                if (!fine) {
                    return false;
                }
            }
            return true;
        }

        private boolean readLot(Road road, int place) {
            if (road.lots[place]) {
                return stop(TOLD_ALREADY);
            }
            tape.step();
            road.lots[place] = true;
            return true;
        }

        private boolean readBox(Road road, int place) {
            if (road.boxes[place] != 0) {
                return stop(TOLD_ALREADY);
            }
            tape.step();
            int year = readNumber(1, YEARS - 1);
            if (year == NONE) {
                return false;
            }
            road.boxes[place] = year;
            return true;
        }

        private boolean readWorks(Road road, int place) {
            if (road.worksYears[place] != NONE) {
                return stop(TOLD_ALREADY);
            }
            tape.step();
            int year = readNumber(0, YEARS - 1);
            int share = year == NONE ? NONE : readNumber(0, 9);
            if (share == NONE) {
                return false;
            }
            road.worksYears[place] = year;
            road.worksShares[place] = share;
            return true;
        }

        private boolean readSaves(Road road) {
            if (road.savesTold) {
                return stop(TOLD_ALREADY);
            }
            tape.step();
            int saves = readNumber(0, 9);
            int moves = saves == NONE ? NONE : readNumber(0, 9);
            if (moves == NONE) {
                return false;
            }
            road.savesTold = true;
            road.saves = saves;
            road.moves = moves;
            return true;
        }

        /** A name that none of those ahead of it bears. */
        private boolean readName(int[] names, int many) {
            if (tape.sort != Tape.WORD || Tape.isOfLanguage(tape.value)) {
                return stop(WRONG);
            }
            if (find(names, many, tape.value) != NONE) {
                return stop(TOLD_ALREADY);
            }
            if (many < 0 || many >= names.length) {
                return stop(TOO_MUCH);
            }
            names[many] = tape.value;
            tape.step();
            return true;
        }

        private int readNumber(int least, int most) {
            int value = tape.value;
            if (tape.sort != Tape.DIGITS) {
                stop(WRONG);
                return NONE;
            }
            if (!isWithin(value, least, most)) {
                stop(TOO_MUCH);
                return NONE;
            }
            tape.step();
            return value;
        }

        private boolean stop(int why) {
            found = why;
            foundAt = tape.place;
            return false;
        }

        private boolean readTake(Rule rule) {
            if (rule.size > 0) {
                return stop(TOLD_ALREADY);
            }
            top = 0;
            open = 0;
            knots = 0;
            compared[0] = false;
            valueDue = true;
            notMayStand = true;
            tape.step();
            // A token has a byte at least, and the end of the tape is a fault.
            for (int i = 0; i <= TAPE_MOST; i++) {
                if (!valueDue && open == 0 && tape.isSign(';')) {
                    layDown(rule, RANK_OR);
                    return true;
                }
                boolean fine = valueDue ? readValue(rule) : readBehind(rule);
                if (!fine) {
                    return false;
                }
                tape.step();
            }
            return stop(WRONG);
        }

        private boolean readValue(Rule rule) {
            if (tape.sort == Tape.DIGITS) {
                return tape.value > Rule.NUMBER_MOST ? stop(TOO_MUCH) : putValue(rule, Rule.stepOf(tape.value));
            }
            if (tape.sort == Tape.WORD && Tape.isOfCounts(tape.value)) {
                return putValue(rule, tape.value);
            }
            if (tape.isWord(Tape.NOT) && notMayStand) {
                return putOnPile(Tape.NOT);
            }
            return tape.isSign('(') ? putOpen() : stop(WRONG);
        }

        private boolean readBehind(Rule rule) {
            if (tape.isSign(')')) {
                return putClose(rule);
            }
            if (open < 0 || open > OPEN_MOST) {
                return stop(TOO_MUCH);
            }
            boolean joins = tape.sort == Tape.SIGN || tape.isWord(Tape.AND) || tape.isWord(Tape.OR);
            int rank = joins ? rankOf(tape.value) : 0;
            if (rank == 0 || rank == RANK_COMPARE && compared[open]) {
                return stop(WRONG);
            }
            layDown(rule, rank);
            if (rank <= RANK_COMPARE) {
                compared[open] = rank == RANK_COMPARE;
            }
            notMayStand = rank <= RANK_AND;
            valueDue = true;
            return putOnPile(tape.value);
        }

        private boolean putValue(Rule rule, int step) {
            if (knots >= KNOTS_MOST) {
                return stop(TOO_MUCH);
            }
            knots++;
            rule.add(step);
            valueDue = false;
            return true;
        }

        private boolean putOnPile(int sign) {
            if (knots >= KNOTS_MOST || top < 0 || top >= pile.length) {
                return stop(TOO_MUCH);
            }
            knots++;
            pile[top] = sign;
            top++;
            return true;
        }

        private boolean putOpen() {
            if (open < 0 || open >= OPEN_MOST || top < 0 || top >= pile.length) {
                return stop(TOO_MUCH);
            }
            pile[top] = '(';
            top++;
            open++;
            compared[open] = false;
            notMayStand = true;
            return true;
        }

        private boolean putClose(Rule rule) {
            if (open <= 0) {
                return stop(WRONG);
            }
            layDown(rule, RANK_OR);
            top--;
            open--;
            return true;
        }

        private void layDown(Rule rule, int rank) {
            for (; top > 0 && top <= pile.length && rankOf(pile[top - 1]) >= rank; top--) {
                rule.add(pile[top - 1]);
            }
        }

        private static int rankOf(int sign) {
            switch (sign) {
                case Tape.OR: return RANK_OR;
                case Tape.AND: return RANK_AND;
                case Tape.NOT: return RANK_NOT;
                case '<': case '=': case '>':
                case Tape.AT_MOST: case Tape.UNLIKE: case Tape.AT_LEAST: return RANK_COMPARE;
                case '+': case '-': return RANK_PLUS;
                case '*': case '/': return RANK_TIMES;
                default: return 0;
            }
        }
    }

    /** The rule as steps on a stack of values; without one it has no steps and takes nothing. */
    private static final class Rule {
        static final int NUMBER_MOST = 999;
        private static final long VALUE_MOST = 1000000000000L;

        int size = 0;
        private final int[] steps = new int[KNOTS_MOST];
        private final long[] stack = new long[KNOTS_MOST];
        private int top = 0;
        private boolean error = false;
        private int one = 0;
        private int two = 0;
        private int three = 0;
        private int county = 0;

        /** Numbers lie below 0, away from signs and words. */
        static int stepOf(int written) {
            return -1 - written;
        }

        void add(int step) {
            if (size >= 0 && size < steps.length) {
                steps[size] = step;
                size++;
            }
        }

        boolean takes(int first, int second, int third, int ofCounty) {
            one = first;
            two = second;
            three = third;
            county = ofCounty;
            top = 0;
            error = false;
            for (int i = 0; i < size && i < steps.length && !error; i++) {
                work(steps[i]);
            }
            return !error && top == 1 && stack[0] != 0;
        }

        private void work(int step) {
            if (step < 0) {
                push(-1 - step);
            } else if (Tape.isOfCounts(step)) {
                push(valueOf(step));
            } else if (step == Tape.NOT) {
                push(pop() == 0 ? 1 : 0);
            } else {
                long right = pop();
                long left = pop();
                push(join(step, left, right));
            }
        }

        private long valueOf(int word) {
            switch (word) {
                case Tape.ONE: return one;
                case Tape.TWO: return two;
                case Tape.THIRD: return three;
                case Tape.SUM: return one + two + three;
                case Tape.MOST: return Math.max(one, Math.max(two, three));
                case Tape.LEAST: return Math.min(one, Math.min(two, three));
                default: return county;
            }
        }

        private long join(int sign, long left, long right) {
            switch (sign) {
                case '+': return left + right;
                case '-': return left - right;
                case '*': return times(left, right);
                case '/': return by(left, right);
                case '<': return left < right ? 1 : 0;
                case '=': return left == right ? 1 : 0;
                case '>': return left > right ? 1 : 0;
                case Tape.AT_MOST: return left <= right ? 1 : 0;
                case Tape.UNLIKE: return left != right ? 1 : 0;
                case Tape.AT_LEAST: return left >= right ? 1 : 0;
                case Tape.AND: return left != 0 && right != 0 ? 1 : 0;
                default: return left != 0 || right != 0 ? 1 : 0;
            }
        }

        private long times(long left, long right) {
            if (right == 0) {
                return 0;
            }
            long wide = left < 0 ? -left : left;
            long high = right < 0 ? -right : right;
            // Looked at ahead of the product, which could wrap around a long.
            if (wide > VALUE_MOST / high) {
                error = true;
                return 0;
            }
            return left * right;
        }

        private long by(long left, long right) {
            if (right == 0) {
                error = true;
                return 0;
            }
            return left / right;
        }

        private void push(long value) {
            if (top < 0 || top >= stack.length || value > VALUE_MOST || value < -VALUE_MOST) {
                error = true;
                return;
            }
            stack[top] = value;
            top++;
        }

        private long pop() {
            if (top <= 0 || top > stack.length) {
                error = true;
                return 0;
            }
            top--;
            return stack[top];
        }
    }

    /** Counts and strikes as they came, and a table of the counts that are known by them. */
    private static final class Notes {
        int many = 0;
        private int limit = NONE;
        private final int[] places = new int[NOTES_MOST];
        private final int[] years = new int[NOTES_MOST];
        private final int[] counts = new int[NOTES_MOST];
        private final int[] targets = new int[NOTES_MOST];
        private final boolean[] struck = new boolean[NOTES_MOST];
        private final int[] table = new int[PLACES_MOST * YEARS];

        Notes() {
            for (int i = 0; i < PLACES_MOST * YEARS; i++) {
                table[i] = NONE;
            }
        }

        void clear() {
            many = 0;
            limit = NONE;
            refresh();
        }

        /** A count has no target; a strike has a target alone. */
        int add(int place, int year, int counted, int target) {
            int next = many;
            if (next < 0 || next >= NOTES_MOST) {
                return NONE;
            }
            places[next] = place;
            years[next] = year;
            counts[next] = counted;
            targets[next] = target;
            many = next + 1;
            if (limit == NONE) {
                putLatest(place, year, counted, target);
            }
            return next;
        }

        /** The latest count is so whatever was ahead of it; a strike may change any. */
        private void putLatest(int place, int year, int counted, int target) {
            boolean isCount = isWithin(place, 0, PLACES_MOST - 1) && isWithin(year, 0, YEARS - 1);
            if (target == NONE && isCount) {
                table[place * YEARS + year] = counted;
            } else {
                refresh();
            }
        }

        void limitTo(int n) {
            limit = n;
            refresh();
        }

        int byHowMany() {
            return limit == NONE ? many : limit;
        }

        int at(int place, int year) {
            boolean stands = place >= 0 && place < PLACES_MOST && year >= 0 && year < YEARS;
            return stands ? table[place * YEARS + year] : NONE;
        }

        /** NONE, if one of these years isn't known. */
        int sumOf(int place, int from, int howMany) {
            int sum = 0;
            for (int i = 0; i < howMany && i < YEARS; i++) {
                int counted = at(place, from + i);
                if (counted == NONE) {
                    return NONE;
                }
                sum += counted;
            }
            return sum;
        }

        int latestYear() {
            for (int year = YEARS - 1; year >= 0; year--) {
                for (int place = 0; place < PLACES_MOST; place++) {
                    if (at(place, year) != NONE) {
                        return year;
                    }
                }
            }
            return NONE;
        }

        private void refresh() {
            int known = Math.min(byHowMany(), NOTES_MOST);
            findStruck(known);
            for (int i = 0; i < PLACES_MOST * YEARS; i++) {
                table[i] = NONE;
            }
            for (int i = 0; i < known; i++) {
                boolean isCount = isWithin(places[i], 0, PLACES_MOST - 1) && isWithin(years[i], 0, YEARS - 1);
                if (isCount && !struck[i]) {
                    table[places[i] * YEARS + years[i]] = counts[i];
                }
            }
        }

        /** From the last one on: what strikes a strike always stands behind it. */
        private void findStruck(int known) {
            for (int i = 0; i < NOTES_MOST; i++) {
                struck[i] = false;
            }
            for (int i = Math.min(known, NOTES_MOST) - 1; i >= 0; i--) {
                int target = targets[i];
                if (!struck[i] && target >= 0 && target < NOTES_MOST) {
                    struck[target] = true;
                }
            }
        }
    }

    /** How likely each kind is for a place, what follows from that, and fractions in least terms. */
    private static final class Odds {
        private final long[] likelies = new long[KINDS_MOST];
        private final long[] others = new long[KINDS_MOST];
        long above = 0;
        long below = 0;
        int leastMean = 0;
        int greatestMean = 0;

        long weigh(Road road, int kind, int place, int a, int b) {
            if (kind < 0 || kind >= KINDS_MOST) {
                return 0;
            }
            long product = road.kinds.weights[kind];
            for (int year = a; year <= b && year < YEARS; year++) {
                int counted = road.notes.at(place, year);
                if (counted != NONE) {
                    product *= road.kinds.howManyAre(kind, counted);
                }
            }
            return product;
        }

        void seekRate(Road road, int place, int a, int b) {
            long all = weighAll(likelies, road, place, a, b);
            long over = 0;
            for (int kind = 0; kind < KINDS_MOST; kind++) {
                over += likelies[kind] * road.kinds.sums[kind];
            }
            reduce(over, FACES * all);
        }

        /** False, if all are 0. */
        boolean seekSpan(Road road, int place, int a, int b) {
            long all = weighAll(likelies, road, place, a, b);
            long together = 0;
            boolean any = false;
            for (int i = 0; i < KINDS_MOST && 20 * together < 19 * all; i++) {
                int kind = mostLikely();
                int mean = road.kinds.sums[kind];
                leastMean = any ? Math.min(leastMean, mean) : mean;
                greatestMean = any ? Math.max(greatestMean, mean) : mean;
                any = true;
                together += likelies[kind];
                likelies[kind] = 0;
            }
            return any;
        }

        void compare(Road road, int one, int other, int a, int b) {
            long all = weighAll(likelies, road, one, a, b);
            long allOthers = weighAll(others, road, other, a, b);
            long over = 0;
            for (int i = 0; i < KINDS_MOST; i++) {
                for (int k = 0; k < KINDS_MOST; k++) {
                    if (road.kinds.sums[i] > road.kinds.sums[k]) {
                        over += likelies[i] * others[k];
                    }
                }
            }
            reduce(over, all * allOthers);
        }

        /** To least terms, the lower one above 0; 0 by 0, if that is 0. */
        void reduce(long over, long under) {
            long common = under;
            long rest = over < 0 ? -over : over;
            // Two steps halve the rest at least: 200 are beyond any long.
            for (int i = 0; i < 200 && rest != 0; i++) {
                long next = common % rest;
                common = rest;
                rest = next;
            }
            above = under <= 0 || common == 0 ? 0 : over / common;
            below = under <= 0 || common == 0 ? 0 : under / common;
        }

        /** So much of the fraction, cut towards 0; something else, if it is 0 by 0. */
        int times(int factor, int without) {
            return below == 0 ? without : (int) (factor * above / below);
        }

        private long weighAll(long[] row, Road road, int place, int a, int b) {
            long all = 0;
            for (int kind = 0; kind < row.length; kind++) {
                row[kind] = kind < road.kinds.many ? weigh(road, kind, place, a, b) : 0;
                all += row[kind];
            }
            return all;
        }

        private int mostLikely() {
            int best = 0;
            for (int kind = 1; kind < KINDS_MOST; kind++) {
                if (likelies[kind] > likelies[best]) {
                    best = kind;
                }
            }
            return best;
        }
    }

    /** What the rule takes of all that luck can deal, and of what it deals by a seed. */
    private static final class Luck {
        private int county = NONE;
        long takes = 0;
        long had = 0;
        long hasInTenths = 0;
        private int last = 0;
        private final int[] dealt = new int[2 * THREE];
        int dealtTaken = 0;
        int dealtFall = 0;

        void forget() {
            county = NONE;
        }

        /** Kept for the county that was asked last, as it is mostly asked several times. */
        void applyLaw(Road road, int ofCounty) {
            if (county == ofCounty) {
                return;
            }
            county = ofCounty;
            takes = 0;
            had = 0;
            hasInTenths = 0;
            for (int i = 0; i < 1000; i++) {
                addThree(road, i / 100, i / 10 % 10, i % 10);
            }
        }

        long ofHundred() {
            long hadInTenths = 10 * had;
            return hadInTenths == 0 ? 0 : 100 * (hadInTenths - hasInTenths) / hadInTenths;
        }

        private void addThree(Road road, int one, int two, int three) {
            Kinds kinds = road.kinds;
            long all = 0;
            long tenths = 0;
            for (int kind = 0; kind < kinds.many && kind < KINDS_MOST; kind++) {
                long weight = kinds.weights[kind];
                weight *= kinds.howManyAre(kind, one);
                weight *= kinds.howManyAre(kind, two);
                weight *= kinds.howManyAre(kind, three);
                all += weight;
                tenths += weight * THREE * kinds.sums[kind];
            }
            // What no kind can deal needs no rule.
            if (all != 0 && road.rule.takes(one, two, three, county)) {
                takes += all;
                had += all * (one + two + three);
                hasInTenths += tenths;
            }
        }

        void deal(Road road, int seed, int many) {
            last = seed;
            dealtTaken = 0;
            dealtFall = 0;
            for (int i = 0; i < many && i < DRAWS_MOST; i++) {
                dealOnce(road);
            }
        }

        private void dealOnce(Road road) {
            int kind = kindBy(road.kinds, next());
            for (int i = 0; i < dealt.length; i++) {
                dealt[i] = road.kinds.faceAt(kind, next() % FACES);
            }
            if (road.rule.takes(dealt[0], dealt[1], dealt[2], 0)) {
                dealtTaken++;
                dealtFall += dealt[0] + dealt[1] + dealt[2] - dealt[3] - dealt[4] - dealt[5];
            }
        }

        private static int kindBy(Kinds kinds, int drawn) {
            int rest = kinds.allWeights > 0 ? drawn % kinds.allWeights : 0;
            int together = 0;
            for (int kind = 0; kind < kinds.many && kind < KINDS_MOST; kind++) {
                together += kinds.weights[kind];
                if (together > rest) {
                    return kind;
                }
            }
            return 0;
        }

        private int next() {
            // The lowest 31 bits are right even where the product wraps around.
            last = last * 1103515245 + 12345 & Integer.MAX_VALUE;
            return last / 65536;
        }
    }

    /** A place's fall and its parts, in thousandths but for the sums, and mean falls of several. */
    private static final class Falls {
        final Odds odds = new Odds();
        private int landBefore = 0;
        private int landAfter = 0;
        int before = 0;
        int after = 0;
        int back = 0;
        int luck = 0;
        int land = 0;
        int works = 0;
        int box = 0;
        int moved = 0;
        int with = 0;
        int without = 0;

        /** False, if it isn't one. */
        boolean part(Road road, int place) {
            int from = road.has(place) ? road.boxes[place] : 0;
            if (!isWithin(from, FIRST_FALL, LAST_FALL)) {
                return false;
            }
            seekLand(road, from);
            moved = movedTo(road, place + 1, from);
            // Behind those of other places, as the sums found last are the ones that stay.
            if (!seekSums(road.notes, place, from)) {
                return false;
            }
            odds.seekRate(road, place, from - THREE, from - 1);
            back = odds.times(3000, 1000 * before);
            luck = 1000 * before - back;
            land = back - left(back);
            boolean worked = isWithin(road.worksYears[place], from, from + 2);
            works = worked ? (back - land) * road.worksShares[place] / 10 : 0;
            box = 1000 * (before - after) - luck - land - works;
            return true;
        }

        /** What the mean fall of those with a box is more than that of those without. */
        void seekDealt(Road road, int county, int year) {
            with = 0;
            without = 0;
            int fallWith = 0;
            int fallWithout = 0;
            for (int place = 0; place < PLACES_MOST && road.has(place); place++) {
                boolean dealt = road.lots[place] && road.counties[place] == county;
                if (!dealt || !seekSums(road.notes, place, year)) {
                    continue;
                }
                if (road.boxes[place] == year) {
                    with++;
                    fallWith += before - after;
                } else if (road.hasNoBoxBy(place, year + 2)) {
                    without++;
                    fallWithout += before - after;
                }
            }
            odds.reduce(fallWith * without - fallWithout * with, with * without);
        }

        void seekChosen(Road road, int year) {
            int many = 0;
            int fallen = 0;
            for (int place = 0; place < PLACES_MOST && road.has(place); place++) {
                boolean chosen = !road.lots[place] && road.boxes[place] == year;
                if (chosen && seekSums(road.notes, place, year)) {
                    many++;
                    fallen += before - after;
                }
            }
            odds.reduce(fallen, many);
        }

        /** False, if one of the six years isn't known. */
        private boolean seekSums(Notes notes, int place, int from) {
            before = notes.sumOf(place, from - THREE, THREE);
            after = notes.sumOf(place, from, THREE);
            return before != NONE && after != NONE;
        }

        private void seekLand(Road road, int from) {
            landBefore = 0;
            landAfter = 0;
            for (int place = 0; place < PLACES_MOST && road.has(place); place++) {
                if (road.boxes[place] == 0 && seekSums(road.notes, place, from)) {
                    landBefore += before;
                    landAfter += after;
                }
            }
        }

        /** What the land alone leaves of so much. */
        private int left(int amount) {
            return landBefore == 0 ? amount : amount * landAfter / landBefore;
        }

        private int movedTo(Road road, int next, int from) {
            if (!road.hasNoBoxBy(next, from + 2) || !seekSums(road.notes, next, from)) {
                return 0;
            }
            return Math.max(0, 1000 * after - left(1000 * before));
        }
    }

    /** The years that a house can put beside others. */
    private static final class House {
        private boolean any = false;
        int greatest = 0;
        int least = 0;
        int years = 0;
        int ahead = 0;
        int behind = 0;

        /** False, if there are none. */
        boolean seek(Notes notes, int place, int from) {
            any = false;
            for (int length = 1; length <= THREE && from > 0; length++) {
                for (int first = 0; first + length <= from && first < YEARS; first++) {
                    for (int second = from; second + length <= YEARS; second++) {
                        int before = notes.sumOf(place, first, length);
                        int after = notes.sumOf(place, second, length);
                        if (before > 0 && after != NONE && keep(100 * (before - after) / before)) {
                            years = length;
                            ahead = first;
                            behind = second;
                        }
                    }
                }
            }
            return any;
        }

        /** True, if it is the greatest up to now. */
        private boolean keep(int less) {
            boolean greater = !any || less > greatest;
            greatest = greater ? less : greatest;
            least = !any || less < least ? less : least;
            any = true;
            return greater;
        }
    }

    /** Rates of places in thousandths, and which of these save or bring the most. */
    private static final class Poles {
        private final Odds odds = new Odds();
        private int places = 0;
        private final int[] rates = new int[PLACES_MOST];
        private final int[] saves = new int[PLACES_MOST];
        private final int[] moves = new int[PLACES_MOST];
        private final int[] coins = new int[PLACES_MOST];

        void seekRates(Road road) {
            int latest = road.notes.latestYear();
            int first = Math.max(0, latest - YEARS_AT_ONCE + 1);
            places = Math.min(road.places, PLACES_MOST);
            for (int place = 0; place < places; place++) {
                rates[place] = 0;
                if (latest != NONE) {
                    odds.seekRate(road, place, first, latest);
                    rates[place] = odds.times(1000, 0);
                }
                saves[place] = rates[place] * road.saves / 10;
                moves[place] = place + 1 < places ? saves[place] * road.moves / 10 : 0;
                coins[place] = road.coins[place];
            }
        }

        /** As bits; of several the least ones, which come first. */
        int best(int k, boolean byLives) {
            int chosen = NONE;
            int most = 0;
            for (int bits = 0; bits < 1 << places; bits++) {
                if (Integer.bitCount(bits) != k) {
                    continue;
                }
                int worth = byLives ? saved(bits) : brought(bits);
                if (chosen == NONE || worth > most) {
                    most = worth;
                    chosen = bits;
                }
            }
            return chosen;
        }

        int saved(int bits) {
            int sum = 0;
            for (int place = 0; place < places && place < PLACES_MOST; place++) {
                if ((bits >> place & 1) != 0) {
                    sum += saves[place];
                    sum -= (bits >> place + 1 & 1) == 0 ? moves[place] : 0;
                }
            }
            return sum;
        }

        int brought(int bits) {
            int sum = 0;
            for (int place = 0; place < places && place < PLACES_MOST; place++) {
                sum += (bits >> place & 1) != 0 ? coins[place] : 0;
            }
            return sum;
        }

        /** Places without a box that are worse than some place with one. */
        int aboveSomeBox(Road road) {
            int lowest = Integer.MAX_VALUE;
            for (int place = 0; place < PLACES_MOST && road.has(place); place++) {
                if (road.boxes[place] != 0) {
                    lowest = Math.min(lowest, rates[place]);
                }
            }
            int bits = 0;
            for (int place = 0; place < PLACES_MOST && road.has(place); place++) {
                if (road.boxes[place] == 0 && rates[place] > lowest) {
                    bits |= 1 << place;
                }
            }
            return bits;
        }
    }
}
