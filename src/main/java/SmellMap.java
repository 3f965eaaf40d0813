import java.util.Arrays;
import java.util.NoSuchElementException;

/** A city of streets and walls, what is smelled in it, and what follows from that. */
public final class SmellMap {
    public static final int NONE = -1;
    public static final int HIDDEN = -1000000;

    private static final int NO_SORT = -2;
    private static final int MOST_BYTES = 160;
    private static final int MOST_ROWS = 4;
    private static final int MOST_COLUMNS = 5;
    private static final int MOST_CELLS = 20;
    private static final int MOST_SOURCES = 6;
    private static final int MOST_LAWS = 4;
    private static final int KINDS = 5;
    private static final int SIDES = 5;
    private static final int DAY = 24;
    private static final int LAST_HOUR = 999;
    private static final int LAST_MINUTE = 30;

    /** The places of what an act can change, numbered as set() numbers them. */
    private static final int WIND = 0;
    private static final int RAIN = 1;
    private static final int HOUR = 2;
    private static final int DULL = 3;
    private static final int OPEN = 4;
    private static final int PLACES = 5;
    private static final int[] MOST_SET = {4, 1, LAST_HOUR, 50};

    /** The items of clauses: six of a source, then the one of how dull noses are. */
    private static final int KIND = 0;
    private static final int ROW = 1;
    private static final int COLUMN = 2;
    private static final int FROM = 3;
    private static final int UNTIL = 4;
    private static final int POWER = 5;
    private static final int DULLNESS = 6;
    private static final int ITEMS = 7;
    private static final int[] ITEM_LETTER = {'k', 'r', 'c', 'f', 'u', 'p', 'n'};
    private static final int[] ITEM_LEAST = {0, 0, 0, 0, 0, 1, 0};
    private static final int[] ITEM_MOST = {4, 3, 4, 23, 23, 9, 50};
    private static final int[] ITEM_USUAL = {0, 0, 0, 0, 0, 5, 1};

    /** By side: how many rows and columns a step goes. */
    private static final int[] STEP_DOWN = {0, -1, 0, 1, 0};
    private static final int[] STEP_RIGHT = {0, 0, 1, 0, -1};

    private final Tape tape = new Tape();
    /** The city, and the one that the next text is read into; they change places. */
    private City city = new City();
    private City draft = new City();
    /** One more than can be kept: the next text is read into the first that is free. */
    private final Law[] laws = new Law[MOST_LAWS + 1];
    private int lawCount = 0;
    private int holding = NONE;
    private final Weather weather = new Weather();
    private final Air air = new Air();
    private final Trail steps = new Trail();
    private final Notes notes = new Notes();
    private final Blind blind = new Blind();

    public SmellMap() {
        for (int i = 0; i < laws.length; i++) {
            laws[i] = new Law();
        }
    }

    public int feed(int a, int b, int c, int d, int e) {
        int more = Tape.bytesIn(a) + Tape.bytesIn(b) + Tape.bytesIn(c) + Tape.bytesIn(d) + Tape.bytesIn(e);
        if (tape.size() + more > MOST_BYTES) {
            return NONE;
        }
        tape.add(a);
        tape.add(b);
        tape.add(c);
        tape.add(d);
        tape.add(e);
        return tape.size();
    }

    public boolean end(int n) {
        if (n < 0 || n > tape.size()) {
            return false;
        }
        tape.cut(n);
        return true;
    }

    public int fault(int sort) {
        if (sort != 0 && sort != 1) {
            return NO_SORT;
        }
        read(sort);
        return tape.firstWrong();
    }

    public int text(int sort) {
        if (sort == 0) {
            return read(0) ? beginCity() : NONE;
        }
        if (sort == 1 && lawCount < MOST_LAWS && read(1)) {
            tape.cut(0);
            lawCount++;
            return lawCount - 1;
        }
        return NONE;
    }

    public int source(int source, int what) throws NoSuchElementException {
        if (source < 0 || source >= city.sourceCount() || what < 0 || what > 6) {
            throw new NoSuchElementException();
        }
        switch (what) {
            case 0:
                return city.item(source, KIND);
            case 1:
                return city.cellOf(city.sourcePlace(source));
            case 2:
                return city.item(source, FROM);
            case 3:
                return city.item(source, UNTIL);
            case 4:
                return city.item(source, POWER);
            case 5:
                return weather.now(OPEN) >> source & 1;
            default:
                return smelling() >> source & 1;
        }
    }

    public int street(int cell) {
        int place = city.placeOf(cell);
        if (place == NONE) {
            return NONE;
        }
        return city.isStreet(place) ? 1 : 0;
    }

    public boolean law(int law) {
        if (!city.isThere() || law < NONE || law >= lawCount) {
            return false;
        }
        holding = law;
        return true;
    }

    public boolean set(int what, int v) {
        if (!city.isThere() || what < WIND || what > DULL || v < 0 || v > at(MOST_SET, what)) {
            return false;
        }
        return weather.act(what, v);
    }

    public boolean open(int source, boolean is) {
        if (source < 0 || source >= city.sourceCount()) {
            return false;
        }
        int bit = 1 << source;
        int others = weather.now(OPEN) & ~bit;
        return weather.act(OPEN, is ? others | bit : others);
    }

    public int hours(int n, long seed) {
        if (!city.isThere() || n < 1 || n > DAY || weather.now(HOUR) + n > LAST_HOUR) {
            return NONE;
        }
        weather.goBy(n, seed);
        return weather.now(HOUR);
    }

    public int undo() {
        return weather.takeBack() ? weather.actCount() : NONE;
    }

    public int far(int from, int to) {
        int start = city.streetOf(from);
        int goal = city.streetOf(to);
        if (start == NONE || goal == NONE) {
            return NONE;
        }
        return city.farness(weather.now(WIND), start, goal);
    }

    public int smell(int cell, int kind) {
        int place = city.streetOf(cell);
        if (place == NONE || !isKind(kind)) {
            return NONE;
        }
        blow(weather.now(WIND));
        return air.greatest(place, kind, smelling());
    }

    public int breath(int cell) {
        int place = city.streetOf(cell);
        if (place == NONE) {
            return NONE;
        }
        blow(weather.now(WIND));
        return air.kindsAt(place, smelling());
    }

    public int strongest(int cell) {
        int place = city.streetOf(cell);
        if (place == NONE) {
            return NONE;
        }
        blow(weather.now(WIND));
        int best = NONE;
        int most = 0;
        for (int kind = 0; kind < KINDS; kind++) {
            int much = air.greatest(place, kind, smelling());
            if (air.isSmelled(much) && much > most) {
                best = kind;
                most = much;
            }
        }
        return best;
    }

    public int trail(int side, int breath) {
        if (!city.isThere() || side < 0 || side >= SIDES || breath < 0 || breath >= 1 << KINDS || steps.isFull()) {
            return NONE;
        }
        steps.add(side, breath);
        return steps.size();
    }

    public boolean wipe() {
        if (steps.size() == 0) {
            return false;
        }
        steps.clear();
        return true;
    }

    public int where(int what) {
        if (!city.isThere() || what != 0 && what != 1) {
            return NONE;
        }
        blow(weather.now(WIND));
        return walked(what == 1);
    }

    public int door(int cell) {
        int place = city.streetOf(cell);
        if (place == NONE) {
            return NONE;
        }
        blow(weather.now(WIND));
        int best = NONE;
        for (int set = 1; set < 1 << city.sourceCount(); set++) {
            air.breathe(city, set);
            boolean fewer = best == NONE || Integer.bitCount(set) < Integer.bitCount(best);
            if (fewer && air.isAlone(city, place)) {
                best = set;
            }
        }
        return best;
    }

    public int most(int what) {
        if (!city.isThere() || what != 0 && what != 1) {
            return NONE;
        }
        blow(weather.now(WIND));
        int best = 0;
        int most = 0;
        for (int set = 0; set < 1 << city.sourceCount(); set++) {
            air.breathe(city, set);
            int many = air.unlikeBreaths(city);
            boolean fewer = many == most && Integer.bitCount(set) < Integer.bitCount(best);
            if (many > most || fewer) {
                best = set;
                most = many;
            }
        }
        return what == 0 ? best : most;
    }

    public int silent() {
        if (!city.isThere()) {
            return NONE;
        }
        blow(weather.now(WIND));
        air.breathe(city, smelling());
        int silent = 0;
        for (int place = 0; place < city.cells(); place++) {
            if (city.isStreet(place) && air.breathAt(place) == 0) {
                silent |= 1 << place;
            }
        }
        return silent;
    }

    public int unlike(int wind, int other) {
        if (!city.isThere() || wind < 0 || wind >= SIDES || other < 0 || other >= SIDES) {
            return NONE;
        }
        blow(wind);
        air.breathe(city, smelling());
        air.remember();
        blow(other);
        air.breathe(city, smelling());
        return air.changed(city);
    }

    public int forged(int cell, int kind) {
        int place = city.streetOf(cell);
        if (place == NONE || !isKind(kind)) {
            return NONE;
        }
        blow(weather.now(WIND));
        air.breathe(city, smelling());
        air.remember();
        air.forge(city, holdingLaw(), place, kind);
        air.breathe(city, smelling() | 1 << MOST_SOURCES);
        return air.changed(city);
    }

    public int follow(int cell, int kind, int what) {
        int place = city.streetOf(cell);
        if (place == NONE || !isKind(kind) || what != 0 && what != 1) {
            return NONE;
        }
        blow(weather.now(WIND));
        return what == 0 ? city.cellOf(noseEnd(place, kind)) : noseSteps(place, kind);
    }

    public int led(int kind) {
        if (!city.isThere() || !isKind(kind)) {
            return NONE;
        }
        blow(weather.now(WIND));
        int goals = city.sourcePlaces(smelling(), kind);
        int led = 0;
        for (int place = 0; place < city.cells(); place++) {
            if (city.isStreet(place) && (goals >> noseEnd(place, kind) & 1) != 0) {
                led |= 1 << place;
            }
        }
        return led;
    }

    public int sure(int cell, int what) {
        int place = city.streetOf(cell);
        if (place == NONE || what != 0 && what != 1) {
            return NONE;
        }
        if (Integer.bitCount(city.streetSet()) > Blind.MOST_STREETS) {
            return HIDDEN;
        }
        blow(weather.now(WIND));
        int nows = walked(true);
        if (nows == 0 || !blind.gather(city, nows, place)) {
            return NONE;
        }
        return what == 0 ? blind.stepCount() : blind.firstStep();
    }

    public int note(int minute, int cell, int steps, boolean is) {
        int place = city.streetOf(cell);
        if (place == NONE || minute < 0 || minute > LAST_MINUTE || steps < 0 || steps > 9 || notes.isFull()) {
            return NONE;
        }
        notes.add(minute, place, steps, is);
        return notes.size();
    }

    public int thief(int minute) {
        if (!city.isThere() || minute < 0 || minute > LAST_MINUTE) {
            return NONE;
        }
        notes.weigh(city);
        return notes.cans(minute);
    }

    public int found(int what) {
        if (!city.isThere() || what != 0 && what != 1) {
            return NONE;
        }
        notes.weigh(city);
        for (int minute = 0; minute <= LAST_MINUTE; minute++) {
            int cans = notes.cans(minute);
            if (Integer.bitCount(cans) == 1) {
                return what == 0 ? minute : city.cellOf(Integer.bitCount(cans - 1));
            }
        }
        return NONE;
    }

    public int image() {
        if (!city.isThere()) {
            return NONE;
        }
        weather.keepImage();
        return weather.now(HOUR);
    }

    public int back() {
        return weather.useImage() ? weather.now(HOUR) : NONE;
    }

    public int count(int what) {
        switch (what) {
            case 0:
                return city.rowCount();
            case 1:
                return city.columnCount();
            case 2:
                return Integer.bitCount(city.streetSet());
            case 3:
                return city.sourceCount();
            case 4:
                return lawCount;
            case 5:
                return tape.size();
            case 6:
                return weather.now(HOUR);
            case 7:
                return weather.now(WIND);
            case 8:
                return weather.now(RAIN);
            case 9:
                return weather.now(DULL);
            case 10:
                return steps.size();
            case 11:
                return notes.size();
            case 12:
                return weather.actCount();
            default:
                return HIDDEN;
        }
    }

    /** Reads the tape as a city (0) into the draft, or as a law (1) into the first one that is free. */
    private boolean read(int sort) {
        if (sort == 0) {
            return draft.readFrom(tape);
        }
        Law next = lawAt(lawCount);
        return next != null && Grammar.readLaw(tape, next);
    }

    private int beginCity() {
        City old = city;
        city = draft;
        draft = old;
        tape.cut(0);
        holding = NONE;
        weather.begin(city.dullness(), (1 << city.sourceCount()) - 1);
        steps.clear();
        notes.clear();
        return Integer.bitCount(city.streetSet());
    }

    private Law lawAt(int law) {
        return law >= 0 && law < laws.length ? laws[law] : null;
    }

    private Law holdingLaw() {
        return lawAt(holding);
    }

    private static boolean isKind(int kind) {
        return kind >= 0 && kind < KINDS;
    }

    /** The sources (bits) that smell now. */
    private int smelling() {
        return weather.now(OPEN) & city.timely(weather.now(HOUR) % DAY);
    }

    /** Every whiff of every source whose hour it is, as it would be by a wind. */
    private void blow(int wind) {
        air.blow(city, holdingLaw(), weather, wind);
    }

    /** Where one can have gone from by the trail, or where one can be then. */
    private int walked(boolean ends) {
        air.breathe(city, smelling());
        return steps.fitting(city, air, ends);
    }

    /** Where one ends who follows a kind from a place. */
    private int noseEnd(int place, int kind) {
        int here = place;
        int next = noseStep(here, kind);
        for (int n = 0; n < MOST_CELLS && next != here; n++) {
            here = next;
            next = noseStep(here, kind);
        }
        return here;
    }

    /** Behind how many steps one ends who follows a kind from a place. */
    private int noseSteps(int place, int kind) {
        int count = 0;
        int here = place;
        int next = noseStep(here, kind);
        while (count < MOST_CELLS && next != here) {
            count++;
            here = next;
            next = noseStep(here, kind);
        }
        return count;
    }

    /** The place one step on by a kind; the same place, if no place beside it smells more. */
    private int noseStep(int here, int kind) {
        int smelling = smelling();
        int best = here;
        int most = air.greatest(here, kind, smelling);
        for (int side = 1; side < SIDES; side++) {
            int beside = city.go(here, side);
            int much = air.greatest(beside, kind, smelling);
            if (much > most) {
                best = beside;
                most = much;
            }
        }
        return best;
    }

    private static int at(int[] row, int i) {
        return row != null && i >= 0 && i < row.length ? row[i] : 0;
    }

    private static void put(int[] row, int i, int v) {
        if (row != null && i >= 0 && i < row.length) {
            row[i] = v;
        }
    }

    /** The tape, and the place on it up to which a text has been read. */
    private static final class Tape {
        /** What stands behind the last byte, or behind the first wrong one. */
        static final int BEHIND = -1;
        private static final int BLANK = 32;

        private final int[] bytes = new int[MOST_BYTES];
        private int size = 0;
        private int place = 0;
        private int wrong = NONE;

        static int bytesIn(int number) {
            int count = 0;
            for (int shift = 24; shift >= 0; shift -= 8) {
                if ((number >>> shift & 255) != 0) {
                    count++;
                }
            }
            return count;
        }

        int size() {
            return size;
        }

        void add(int number) {
            for (int shift = 24; shift >= 0; shift -= 8) {
                int next = number >>> shift & 255;
                if (next != 0 && size < MOST_BYTES) {
                    put(bytes, size, next);
                    size++;
                }
            }
        }

        void cut(int length) {
            size = Math.max(0, Math.min(size, length));
        }

        void begin() {
            place = 0;
            wrong = NONE;
        }

        /** The first byte at which the text was wrong, NONE if it was right. */
        int firstWrong() {
            return wrong;
        }

        boolean isRight() {
            return wrong == NONE;
        }

        private void refuseAt(int where) {
            if (wrong == NONE) {
                wrong = where;
            }
        }

        /** The sign that next() told last is wrong. */
        void refuse() {
            refuseAt(place);
        }

        void refuseLength() {
            refuseAt(size);
        }

        /** The sign that stands next, behind blanks. */
        int next() {
            while (place < size && at(bytes, place) == BLANK) {
                place++;
            }
            return wrong == NONE && place < size ? at(bytes, place) : BEHIND;
        }

        /** Goes past the sign that next() told last. */
        void pass() {
            if (place < size) {
                place++;
            }
        }

        boolean take(int sign) {
            if (next() != sign) {
                return false;
            }
            pass();
            return true;
        }

        void need(int sign) {
            if (next() == sign) {
                pass();
            } else {
                refuse();
            }
        }

        static boolean isDigit(int sign) {
            return sign >= '0' && sign <= '9';
        }

        /** A number of so many digits at most; without blanks in it. */
        int number(int digits, int least, int most) {
            if (!isDigit(next())) {
                refuse();
                return least;
            }
            int v = 0;
            int end = Math.min(size, place + digits);
            while (place < end && isDigit(at(bytes, place))) {
                v = v * 10 + at(bytes, place) - '0';
                place++;
            }
            if (place < size && isDigit(at(bytes, place))) {
                refuseAt(place);
            } else if (v < least || v > most) {
                refuseAt(place - 1);
            }
            return v;
        }
    }

    /** A city as its text tells it: what never changes while it is the city. */
    private static final class City {
        /** Farness where no way leads. */
        private static final int NEVER = NONE;

        private int rows = 0;
        private int columns = 0;
        private int sources = 0;
        private int dulls = 0;
        /** Bits of places: a place is its row times columns and its column. */
        private int streets = 0;
        private final int[] rowLength = new int[MOST_ROWS];
        private final int[] rowStreets = new int[MOST_ROWS];
        /** By clause the items; behind the sources' clauses the one of how dull noses are. */
        private final int[] items = new int[(MOST_SOURCES + 1) * ITEMS];
        /** By place and side: where a step leads. */
        private final int[] beside = new int[MOST_CELLS * SIDES];
        /** By start and goal; a start's goals are reckoned when first asked for by a wind. */
        private final int[] far = new int[MOST_CELLS * MOST_CELLS];
        /** By start: the wind by which its goals have been reckoned, and one; 0 if they have not. */
        private final int[] farWind = new int[MOST_CELLS];

        boolean isThere() {
            return rows > 0;
        }

        int rowCount() {
            return rows;
        }

        int columnCount() {
            return columns;
        }

        int sourceCount() {
            return sources;
        }

        int cells() {
            return rows * columns;
        }

        int streetSet() {
            return streets;
        }

        int dullness() {
            return item(MOST_SOURCES, DULLNESS);
        }

        int item(int clause, int item) {
            return at(items, clause * ITEMS + item);
        }

        boolean isStreet(int place) {
            return (streets >> place & 1) != 0;
        }

        /** The place of a cell, NONE if there is no such one. */
        int placeOf(int cell) {
            return cell < 0 ? NONE : placeAt(cell / 10, cell % 10);
        }

        private int placeAt(int row, int column) {
            boolean inside = row >= 0 && row < rows && column >= 0 && column < columns;
            return inside ? row * columns + column : NONE;
        }

        /** The place of a cell that is a street, NONE for others. */
        int streetOf(int cell) {
            int place = placeOf(cell);
            return place != NONE && isStreet(place) ? place : NONE;
        }

        int cellOf(int place) {
            return columns > 0 ? place / columns * 10 + place % columns : NONE;
        }

        int sourcePlace(int source) {
            return placeAt(item(source, ROW), item(source, COLUMN));
        }

        /** The places (bits) of those of some sources that are of a kind. */
        int sourcePlaces(int some, int kind) {
            int places = 0;
            for (int source = 0; source < sources; source++) {
                if ((some >> source & 1) != 0 && item(source, KIND) == kind) {
                    places |= 1 << sourcePlace(source);
                }
            }
            return places;
        }

        /** The sources (bits) whose hour it is. */
        int timely(int hour) {
            int timely = 0;
            for (int source = 0; source < sources; source++) {
                int from = item(source, FROM);
                int until = item(source, UNTIL);
                boolean is = from < until ? hour >= from && hour < until : hour >= from || hour < until;
                if (is) {
                    timely |= 1 << source;
                }
            }
            return timely;
        }

        /** Where a step to a side leads; to side 0, or where no street is, it stays. */
        int go(int place, int side) {
            return at(beside, place * SIDES + side);
        }

        /** The streets of a set, and those a step beside them. */
        int spread(int set) {
            int wider = set;
            for (int place = 0; place < cells(); place++) {
                if ((set >> place & 1) != 0) {
                    for (int side = 1; side < SIDES; side++) {
                        wider |= 1 << go(place, side);
                    }
                }
            }
            return wider;
        }

        int farness(int wind, int from, int to) {
            int row = from * MOST_CELLS;
            if (at(farWind, from) != wind + 1) {
                reckonFar(wind, from, row);
                put(farWind, from, wind + 1);
            }
            return at(far, row + to);
        }

        private void reckonFar(int wind, int from, int row) {
            for (int place = 0; place < MOST_CELLS; place++) {
                put(far, row + place, place == from ? 0 : NEVER);
            }
            boolean better = true;
            for (int n = 0; better && n < MOST_CELLS; n++) {
                better = false;
                for (int place = 0; place < cells(); place++) {
                    if (at(far, row + place) != NEVER && carryOn(wind, place, row)) {
                        better = true;
                    }
                }
            }
        }

        /** Takes the farness of a place on to those beside it; whether one got nearer. */
        private boolean carryOn(int wind, int place, int row) {
            boolean better = false;
            for (int side = 1; side < SIDES; side++) {
                int next = at(beside, place * SIDES + side);
                int reached = at(far, row + place) + stepCost(wind, side);
                int known = at(far, row + next);
                if (known == NEVER || reached < known) {
                    put(far, row + next, reached);
                    better = true;
                }
            }
            return better;
        }

        private static int stepCost(int wind, int side) {
            if (side == wind) {
                return 1;
            }
            // Sides 1 to 4 go round, so the one across is two on.
            return (side + 1) % 4 + 1 == wind ? 3 : 2;
        }

        /** Reads the tape's text; false: it is none of a city, the tape tells where it is wrong. */
        boolean readFrom(Tape tape) {
            clear();
            tape.begin();
            boolean more = true;
            for (int n = 0; more && n <= MOST_BYTES; n++) {
                readClause(tape);
                more = tape.take(';');
            }
            if (tape.next() != Tape.BEHIND) {
                tape.refuse();
            }
            if (tape.isRight() && !isWhole()) {
                tape.refuseLength();
            }
            if (!tape.isRight()) {
                return false;
            }
            layOut();
            return true;
        }

        private void clear() {
            rows = 0;
            columns = 0;
            sources = 0;
            dulls = 0;
            streets = 0;
            for (int clause = 0; clause <= MOST_SOURCES; clause++) {
                for (int item = 0; item < ITEMS; item++) {
                    put(items, clause * ITEMS + item, at(ITEM_USUAL, item));
                }
            }
            Arrays.fill(farWind, 0);
        }

        private void readClause(Tape tape) {
            int letter = tape.next();
            if (letter == 'l' && rows < MOST_ROWS) {
                tape.pass();
                readRow(tape);
            } else if (letter == 's' && sources < MOST_SOURCES) {
                tape.pass();
                readItems(tape, sources, KIND, POWER);
                sources++;
            } else if (letter == 'd' && dulls == 0) {
                tape.pass();
                readItems(tape, MOST_SOURCES, DULLNESS, DULLNESS);
                dulls++;
            } else {
                tape.refuse();
            }
        }

        private void readRow(Tape tape) {
            int length = 0;
            int set = 0;
            for (int n = 0; n < MOST_COLUMNS && isGround(tape.next()); n++) {
                if (tape.next() == '.') {
                    set |= 1 << length;
                }
                tape.pass();
                length++;
            }
            if (length == 0 || isGround(tape.next())) {
                tape.refuse();
            }
            put(rowLength, rows, length);
            put(rowStreets, rows, set);
            rows++;
        }

        private static boolean isGround(int sign) {
            return sign == '.' || sign == '#';
        }

        private void readItems(Tape tape, int clause, int first, int last) {
            int there = 0;
            for (int n = first; n <= last; n++) {
                int item = itemOf(tape.next(), first, last);
                if (item == NONE || (there >> item & 1) != 0) {
                    // Whoever reads on finds no ; there, and refuses it.
                    return;
                }
                there |= 1 << item;
                tape.pass();
                put(items, clause * ITEMS + item, tape.number(2, at(ITEM_LEAST, item), at(ITEM_MOST, item)));
            }
        }

        private static int itemOf(int letter, int first, int last) {
            for (int item = first; item <= last; item++) {
                if (at(ITEM_LETTER, item) == letter) {
                    return item;
                }
            }
            return NONE;
        }

        /** Whether rows, streets and sources are such that they make a city. */
        private boolean isWhole() {
            columns = at(rowLength, 0);
            streets = 0;
            for (int row = 0; row < rows; row++) {
                if (at(rowLength, row) != columns) {
                    return false;
                }
                streets |= at(rowStreets, row) << row * columns;
            }
            for (int source = 0; source < sources; source++) {
                int place = sourcePlace(source);
                if (place == NONE || !isStreet(place)) {
                    return false;
                }
            }
            return rows > 0 && sources > 0 && streets != 0;
        }

        private void layOut() {
            for (int row = 0; row < rows; row++) {
                for (int column = 0; column < columns; column++) {
                    int place = row * columns + column;
                    for (int side = 0; side < SIDES; side++) {
                        int next = placeAt(row + at(STEP_DOWN, side), column + at(STEP_RIGHT, side));
                        boolean goes = next != NONE && isStreet(next);
                        put(beside, place * SIDES + side, goes ? next : place);
                    }
                }
            }
        }
    }

    /**
     * A law, as a row of what to do with a stack of numbers: a number 0 or above is pushed,
     * one below 0 is the sign to do, negated.
     */
    private static final class Law {
        private static final int BOUND = 1000000;
        /**
         * How many numbers wait at most: at each of six ( [ within one another, and outside of them in a
         * condition and in a sum, one ahead of | or + and one ahead of & or *; one ahead of = and the last.
         */
        private static final int MOST_WAITING = 18;

        /** A clause's y : ? make three entries at most, every other sign one: a text's length is enough. */
        private final int[] code = new int[MOST_BYTES];
        private int size = 0;
        private final int[] stack = new int[MOST_WAITING];
        private int power = 0;
        private int farness = 0;
        private int hour = 0;
        private int kind = 0;
        private int wind = 0;

        void clear() {
            size = 0;
        }

        void add(int entry) {
            if (size < MOST_BYTES) {
                put(code, size, entry);
                size++;
            }
        }

        /** A jump to the next clause, if the condition does not hold: where its goal is to be put. */
        int addJump() {
            add(-'?');
            add(0);
            return size - 1;
        }

        void jumpToHere(int jump) {
            put(code, jump, size);
        }

        void letters(int power, int farness, int hour, int kind, int wind) {
            this.power = power;
            this.farness = farness;
            this.hour = hour;
            this.kind = kind;
            this.wind = wind;
        }

        int worth() {
            int top = 0;
            int next = 0;
            for (int i = 0; i < size; i++) {
                int entry = at(code, i);
                if (i < next) {
                    continue;
                }
                if (entry == -';') {
                    return at(stack, top - 1);
                }
                if (entry == -'?') {
                    top--;
                    next = at(stack, top) != 0 ? i + 2 : at(code, i + 1);
                } else if (entry >= 0 || Grammar.isLetter(-entry)) {
                    put(stack, top, entry >= 0 ? entry : letterWorth(-entry));
                    top++;
                } else if (entry == -'!') {
                    put(stack, top - 1, 1 - at(stack, top - 1));
                } else {
                    top--;
                    put(stack, top - 1, joined(at(stack, top - 1), -entry, at(stack, top)));
                }
            }
            return 0;
        }

        private int letterWorth(int letter) {
            switch (letter) {
                case 'p':
                    return power;
                case 'f':
                    return farness;
                case 'h':
                    return hour;
                case 'k':
                    return kind;
                default:
                    return wind;
            }
        }

        private static int joined(int left, int sign, int right) {
            switch (sign) {
                case '+':
                    return held((long) left + right);
                case '-':
                    return held((long) left - right);
                case '*':
                    return held((long) left * right);
                case '/':
                    return right == 0 ? 0 : held(left / right);
                case '=':
                    return left == right ? 1 : 0;
                case '<':
                    return left < right ? 1 : 0;
                case '>':
                    return left > right ? 1 : 0;
                case '&':
                    return left & right;
                default:
                    return left | right;
            }
        }

        private static int held(long v) {
            return (int) Math.max(-BOUND, Math.min(BOUND, v));
        }
    }

    /** Reads the texts of laws. */
    private static final class Grammar {
        /** How many of ( [ ! stand within one another at most. */
        private static final int DEEPEST = 6;

        private Grammar() {
        }

        /** Reads the tape's text; false: it is none of a law, the tape tells where it is wrong. */
        static boolean readLaw(Tape tape, Law law) {
            law.clear();
            tape.begin();
            boolean more = true;
            for (int n = 0; more && n <= MOST_BYTES; n++) {
                readClause(tape, law);
                more = tape.take(';');
            }
            if (tape.next() != Tape.BEHIND) {
                tape.refuse();
            }
            return tape.isRight();
        }

        static boolean isLetter(int sign) {
            return sign == 'p' || sign == 'f' || sign == 'h' || sign == 'k' || sign == 'w';
        }

        private static boolean isComparison(int sign) {
            return sign == '=' || sign == '<' || sign == '>';
        }

        private static void readClause(Tape tape, Law law) {
            tape.need('y');
            tape.need(':');
            int sign = tape.next();
            boolean asks = sign == '!' || sign == '(';
            if (asks) {
                readCondition(tape, law, 0);
            } else {
                readSum(tape, law, 0);
                // Only what stands behind the sum tells whether it was the clause's own or a condition's.
                asks = isComparison(tape.next());
                if (asks) {
                    readComparison(tape, law, 0);
                    readUnitsOn(tape, law, 0);
                    readTruthsOn(tape, law, 0);
                }
            }
            if (asks) {
                tape.need('?');
                int jump = law.addJump();
                readSum(tape, law, 0);
                law.add(-';');
                law.jumpToHere(jump);
            } else {
                law.add(-';');
            }
        }

        private static void readCondition(Tape tape, Law law, int depth) {
            readUnit(tape, law, depth);
            readUnitsOn(tape, law, depth);
            readTruthsOn(tape, law, depth);
        }

        private static void readTruthsOn(Tape tape, Law law, int depth) {
            for (int n = 0; n < MOST_BYTES && tape.take('|'); n++) {
                readUnit(tape, law, depth);
                readUnitsOn(tape, law, depth);
                law.add(-'|');
            }
        }

        private static void readUnitsOn(Tape tape, Law law, int depth) {
            for (int n = 0; n < MOST_BYTES && tape.take('&'); n++) {
                readUnit(tape, law, depth);
                law.add(-'&');
            }
        }

        private static void readUnit(Tape tape, Law law, int depth) {
            int sign = tape.next();
            if (sign != '!' && sign != '(') {
                readSum(tape, law, depth);
                readComparison(tape, law, depth);
                return;
            }
            if (depth >= DEEPEST) {
                tape.refuse();
                return;
            }
            tape.pass();
            if (sign == '!') {
                readUnit(tape, law, depth + 1);
                law.add(-'!');
            } else {
                readCondition(tape, law, depth + 1);
                tape.need(')');
            }
        }

        private static void readComparison(Tape tape, Law law, int depth) {
            int sign = tape.next();
            if (!isComparison(sign)) {
                tape.refuse();
                return;
            }
            tape.pass();
            readSum(tape, law, depth);
            law.add(-sign);
        }

        private static void readSum(Tape tape, Law law, int depth) {
            readTerm(tape, law, depth);
            int sign = tape.next();
            for (int n = 0; n < MOST_BYTES && (sign == '+' || sign == '-'); n++) {
                tape.pass();
                readTerm(tape, law, depth);
                law.add(-sign);
                sign = tape.next();
            }
        }

        private static void readTerm(Tape tape, Law law, int depth) {
            readAtom(tape, law, depth);
            int sign = tape.next();
            for (int n = 0; n < MOST_BYTES && (sign == '*' || sign == '/'); n++) {
                tape.pass();
                readAtom(tape, law, depth);
                law.add(-sign);
                sign = tape.next();
            }
        }

        private static void readAtom(Tape tape, Law law, int depth) {
            int sign = tape.next();
            if (Tape.isDigit(sign)) {
                law.add(tape.number(4, 0, 9999));
            } else if (isLetter(sign)) {
                tape.pass();
                law.add(-sign);
            } else if (sign == '[' && depth < DEEPEST) {
                tape.pass();
                readSum(tape, law, depth + 1);
                tape.need(']');
            } else {
                tape.refuse();
            }
        }
    }

    /** What acts change, the acts that can be undone, and the image. */
    private static final class Weather {
        private static final int MOST_ACTS = 40;

        private final int[] now = new int[PLACES];
        /** How all was before each act, the latest last. */
        private final int[] before = new int[MOST_ACTS * PLACES];
        private int acts = 0;
        private final int[] image = new int[PLACES];
        private boolean hasImage = false;

        void begin(int dull, int open) {
            Arrays.fill(now, 0);
            put(now, DULL, dull);
            put(now, OPEN, open);
            acts = 0;
            hasImage = false;
        }

        int now(int what) {
            return at(now, what);
        }

        int actCount() {
            return acts;
        }

        /** False: it is so already. */
        boolean act(int what, int v) {
            if (now(what) == v) {
                return false;
            }
            keepBefore();
            put(now, what, v);
            return true;
        }

        private void keepBefore() {
            if (acts >= MOST_ACTS) {
                System.arraycopy(before, PLACES, before, 0, (MOST_ACTS - 1) * PLACES);
                acts = MOST_ACTS - 1;
            }
            for (int what = 0; what < PLACES; what++) {
                put(before, acts * PLACES + what, at(now, what));
            }
            acts++;
        }

        /** Hours by draws, each an act of its own. */
        void goBy(int hours, long seed) {
            long x = seed;
            for (int n = 0; n < hours; n++) {
                keepBefore();
                put(now, HOUR, now(HOUR) + 1);
                x = nextDraw(x);
                put(now, WIND, (int) ((x >>> 33) % 5));
                x = nextDraw(x);
                put(now, RAIN, (x >>> 33) % 4 == 0 ? 1 : 0);
            }
        }

        private static long nextDraw(long x) {
            return x * 6364136223846793005L + 1442695040888963407L;
        }

        boolean takeBack() {
            if (acts <= 0) {
                return false;
            }
            acts--;
            for (int what = 0; what < PLACES; what++) {
                put(now, what, at(before, acts * PLACES + what));
            }
            return true;
        }

        void keepImage() {
            System.arraycopy(now, 0, image, 0, PLACES);
            hasImage = true;
        }

        boolean useImage() {
            if (!hasImage) {
                return false;
            }
            System.arraycopy(image, 0, now, 0, PLACES);
            acts = 0;
            return true;
        }
    }

    /** The whiffs in a city by one wind, and the breaths by some sources. */
    private static final class Air {
        private static final int STRONGEST_WHIFF = 99;
        private static final int FORGED = MOST_SOURCES;
        private static final int FORGED_POWER = 5;

        private int wind = 0;
        private int hour = 0;
        private boolean rain = false;
        private int dull = 0;
        /** The sources (bits) whose hour it is; the forged one always. */
        private int timely = 0;
        private final int[] kinds = new int[MOST_SOURCES + 1];
        /** By source and place; the forged source is the last. */
        private final int[] whiffs = new int[(MOST_SOURCES + 1) * MOST_CELLS];
        private final int[] breaths = new int[MOST_CELLS];
        private final int[] remembered = new int[MOST_CELLS];

        void blow(City city, Law law, Weather weather, int wind) {
            this.wind = wind;
            hour = weather.now(HOUR) % DAY;
            rain = weather.now(RAIN) == 1;
            dull = weather.now(DULL);
            timely = city.timely(hour) | 1 << FORGED;
            for (int source = 0; source < city.sourceCount(); source++) {
                put(kinds, source, city.item(source, KIND));
                if ((timely >> source & 1) != 0) {
                    whiff(city, law, source, city.sourcePlace(source), city.item(source, POWER));
                }
            }
        }

        void forge(City city, Law law, int place, int kind) {
            put(kinds, FORGED, kind);
            whiff(city, law, FORGED, place, FORGED_POWER);
        }

        private void whiff(City city, Law law, int source, int from, int power) {
            int kind = at(kinds, source);
            for (int place = 0; place < city.cells(); place++) {
                int farness = city.isStreet(place) ? city.farness(wind, from, place) : NONE;
                int much = 0;
                if (farness != NONE) {
                    int worth = 3 * power - farness;
                    if (law != null) {
                        law.letters(power, farness, hour, kind, wind);
                        worth = law.worth();
                    }
                    int held = Math.max(0, Math.min(STRONGEST_WHIFF, worth));
                    much = rain ? held / 2 : held;
                }
                put(whiffs, source * MOST_CELLS + place, much);
            }
        }

        private int whiffAt(int source, int place) {
            return at(whiffs, source * MOST_CELLS + place);
        }

        private boolean isAmong(int source, int sources) {
            return (sources & timely & 1 << source) != 0;
        }

        boolean isSmelled(int much) {
            return much > 0 && much >= dull;
        }

        /** The smell of a kind at a place by some sources. */
        int greatest(int place, int kind, int sources) {
            int most = 0;
            for (int source = 0; source <= FORGED; source++) {
                if (isAmong(source, sources) && at(kinds, source) == kind) {
                    most = Math.max(most, whiffAt(source, place));
                }
            }
            return most;
        }

        /** The kinds (bits) that are smelled at a place by some sources. */
        int kindsAt(int place, int sources) {
            int set = 0;
            for (int source = 0; source <= FORGED; source++) {
                if (isAmong(source, sources) && isSmelled(whiffAt(source, place))) {
                    set |= 1 << at(kinds, source);
                }
            }
            return set;
        }

        /** The breaths of all streets by some sources. */
        void breathe(City city, int sources) {
            for (int place = 0; place < city.cells(); place++) {
                put(breaths, place, city.isStreet(place) ? kindsAt(place, sources) : 0);
            }
        }

        int breathAt(int place) {
            return at(breaths, place);
        }

        void remember() {
            System.arraycopy(breaths, 0, remembered, 0, MOST_CELLS);
        }

        /** The streets (bits) whose breath is another one than was remembered. */
        int changed(City city) {
            int set = 0;
            for (int place = 0; place < city.cells(); place++) {
                if (city.isStreet(place) && breathAt(place) != at(remembered, place)) {
                    set |= 1 << place;
                }
            }
            return set;
        }

        /** Whether a street has a breath, and no other street has the same. */
        boolean isAlone(City city, int place) {
            int breath = breathAt(place);
            for (int other = 0; other < city.cells(); other++) {
                if (other != place && city.isStreet(other) && breathAt(other) == breath) {
                    return false;
                }
            }
            return breath != 0;
        }

        /** How many unlike breaths the streets have. */
        int unlikeBreaths(City city) {
            int seen = 0;
            for (int place = 0; place < city.cells(); place++) {
                if (city.isStreet(place)) {
                    seen |= 1 << breathAt(place);
                }
            }
            return Integer.bitCount(seen);
        }
    }

    /** A row of steps, and what was breathed behind each. */
    private static final class Trail {
        private static final int MOST_STEPS = 12;

        private final int[] sides = new int[MOST_STEPS];
        private final int[] breaths = new int[MOST_STEPS];
        private int size = 0;

        int size() {
            return size;
        }

        boolean isFull() {
            return size >= MOST_STEPS;
        }

        void clear() {
            size = 0;
        }

        void add(int side, int breath) {
            if (!isFull()) {
                put(sides, size, side);
                put(breaths, size, breath);
                size++;
            }
        }

        /** The streets (bits) from which each breath was as told, or those where one is then. */
        int fitting(City city, Air air, boolean ends) {
            int set = 0;
            for (int start = 0; start < city.cells(); start++) {
                if (city.isStreet(start)) {
                    int last = walk(city, air, start);
                    if (last != NONE) {
                        set |= 1 << (ends ? last : start);
                    }
                }
            }
            return set;
        }

        /** Where one is behind the last step, NONE if a breath was another one. */
        private int walk(City city, Air air, int start) {
            int here = start;
            for (int n = 0; n < size; n++) {
                here = city.go(here, at(sides, n));
                if (air.breathAt(here) != at(breaths, n)) {
                    return NONE;
                }
            }
            return here;
        }
    }

    /** What is noted of the thief, and where he can have been by it. */
    private static final class Notes {
        private static final int MOST_NOTES = 12;

        private final int[] minutes = new int[MOST_NOTES];
        private final int[] places = new int[MOST_NOTES];
        private final int[] within = new int[MOST_NOTES];
        /** 1: he was there, 0: he was not. */
        private final int[] was = new int[MOST_NOTES];
        private int size = 0;
        private final int[] cans = new int[LAST_MINUTE + 1];

        int size() {
            return size;
        }

        boolean isFull() {
            return size >= MOST_NOTES;
        }

        void clear() {
            size = 0;
        }

        void add(int minute, int place, int steps, boolean is) {
            if (!isFull()) {
                put(minutes, size, minute);
                put(places, size, place);
                put(within, size, steps);
                put(was, size, is ? 1 : 0);
                size++;
            }
        }

        int cans(int minute) {
            return at(cans, minute);
        }

        /** Reckons all minutes: forward from what was noted before, then back from what was noted later. */
        void weigh(City city) {
            int set = city.streetSet();
            for (int minute = 0; minute <= LAST_MINUTE; minute++) {
                set = noted(city, minute, minute == 0 ? set : city.spread(set));
                put(cans, minute, set);
            }
            for (int minute = LAST_MINUTE - 1; minute >= 0; minute--) {
                set = city.spread(set) & at(cans, minute);
                put(cans, minute, set);
            }
        }

        /** Those of a set on which he was by the notes of one minute. */
        private int noted(City city, int minute, int set) {
            int left = set;
            for (int n = 0; n < size; n++) {
                if (at(minutes, n) == minute) {
                    int near = near(city, at(places, n), at(within, n));
                    left &= at(was, n) == 1 ? near : ~near;
                }
            }
            return left;
        }

        private static int near(City city, int from, int steps) {
            int near = 0;
            for (int place = 0; place < city.cells(); place++) {
                int farness = city.isStreet(place) ? city.farness(0, from, place) : NONE;
                if (farness != NONE && farness <= 2 * steps) {
                    near |= 1 << place;
                }
            }
            return near;
        }
    }

    /** Goes steps told ahead from all the streets of a set at once, until all are on one. */
    private static final class Blind {
        static final int MOST_STREETS = 12;
        private static final int SETS = 1 << MOST_STREETS;
        /** Where in an entry of the queue the first side and the count of steps stand, above the set. */
        private static final int FIRST = MOST_STREETS;
        private static final int STEPS = FIRST + 3;
        /** Bits in a number of the row of sets that are reached. */
        private static final int WORD = 32;

        /** The streets' own numbers, without gaps, so that there are few sets of them. */
        private final int[] numbers = new int[MOST_CELLS];
        /** By street's number and side: the number of the street where a step leads. */
        private final int[] leads = new int[MOST_STREETS * SIDES];
        private int streets = 0;
        /** The sets in the order in which they are reached, each with its first side and its steps. */
        private final int[] queue = new int[SETS];
        private int size = 0;
        private final int[] reached = new int[SETS / WORD];
        /** The entry of the queue at which all are on one place. */
        private int goal = 0;

        /** Whether all who can be on a set of streets can be brought to one place. */
        boolean gather(City city, int from, int place) {
            number(city);
            Arrays.fill(reached, 0);
            size = 0;
            reach(packed(city, from), 0, 0);
            int all = packed(city, 1 << place);
            // Sets come in the order of their least rows of steps, so the first row to reach one is the least.
            for (int n = 0; n < size && n < SETS; n++) {
                goal = at(queue, n);
                int set = goal & SETS - 1;
                if (set == all) {
                    return true;
                }
                for (int side = 1; side < SIDES; side++) {
                    reach(moved(set, side), n == 0 ? side : firstStep(), stepCount() + 1);
                }
            }
            return false;
        }

        private void reach(int set, int first, int steps) {
            int word = at(reached, set / WORD);
            int bit = 1 << set % WORD;
            if ((word & bit) == 0) {
                put(reached, set / WORD, word | bit);
                put(queue, size, set | first << FIRST | steps << STEPS);
                size++;
            }
        }

        int stepCount() {
            return goal >> STEPS;
        }

        int firstStep() {
            return goal >> FIRST & 7;
        }

        private void number(City city) {
            streets = 0;
            for (int place = 0; place < city.cells(); place++) {
                if (city.isStreet(place)) {
                    put(numbers, place, streets);
                    streets++;
                }
            }
            for (int place = 0; place < city.cells(); place++) {
                for (int side = 1; city.isStreet(place) && side < SIDES; side++) {
                    put(leads, at(numbers, place) * SIDES + side, at(numbers, city.go(place, side)));
                }
            }
        }

        private int packed(City city, int set) {
            int packed = 0;
            for (int place = 0; place < city.cells(); place++) {
                if (city.isStreet(place) && (set >> place & 1) != 0) {
                    packed |= 1 << at(numbers, place);
                }
            }
            return packed;
        }

        private int moved(int set, int side) {
            int next = 0;
            for (int street = 0; street < streets; street++) {
                if ((set >> street & 1) != 0) {
                    next |= 1 << at(leads, street * SIDES + side);
                }
            }
            return next;
        }
    }
}
