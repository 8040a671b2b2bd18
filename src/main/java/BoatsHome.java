import java.util.Arrays;

/**
 * A desk that brings boats home. What each call answers is told in DOC.md; a call makes no
 * object: every row is made with the desk and used again.
 */
public final class BoatsHome {
    public static final int NONE = -1;
    public static final int RANGE = -2;
    public static final int FULL = -3;
    public static final int STATE = -4;

    private static final int NONE_SUCH = -9;
    private static final int PAY_RANGE = -2000000000;
    private static final int PAY_STATE = -2000000001;

    private static final int COLUMNS = 30;
    private static final int ROWS = 20;
    private static final int ZONES = 24;
    private static final int MONTHS = 12;
    private static final int PORTS = 10;
    private static final int BOATS = 6;
    private static final int PARTS = 4;
    private static final int ANGLES = 5;
    private static final int BANDS = 5;
    private static final int CREWS = 4;
    private static final int LAST_DAY = 999;
    private static final int LAST_FIRST_DAY = 499;
    private static final int DAYS_A_YEAR = 360;
    private static final int WATCHES_A_DAY = 4;
    private static final int MOST_SPEED = 40;
    private static final int MOST_STORE = 10000;
    private static final int MOST_PEOPLE = 9;
    private static final int MOST_FORCE = 9;
    private static final int MOST_SAILED = 400;
    private static final int MOST_SUM = 100000;
    private static final int MOST_CHANGE = 1000;
    private static final int MOST_DAYS = 200;
    private static final int MOST_COST = 10000;

    private static final int TAPE_ROOM = 800;
    private static final int FED = 20;
    private static final int LOG_ROOM = 2000;
    private static final int WAY_ROOM = 8;
    private static final int RULE_ROOM = 12;
    private static final int BOX_ROOM = 12;
    private static final int DELIVERY_ROOM = 7;
    private static final int SETS = 128;

    private static final int SYNTAX = 1;
    private static final int OUT_OF_BOUNDS = 2;
    private static final int TWICE = 3;
    private static final int NO_ROOM = 4;

    private static final int SEEN_FORCE = 0;
    private static final int SEEN_WATER = 1;
    private static final int SEEN_DAY = 2;
    private static final int WAIT = 0;
    private static final int TURN = 1;
    private static final int GIVE_UP = 2;

    private static final int NOT_BEGUN = -1;
    private static final int GOES_ON = 0;
    private static final int ARRIVED = 1;
    private static final int GIVEN_UP = 2;

    private static final int BOX_NUMBERS = 6;
    private static final int[] BOX_BOUNDS = {29, 19, 29, 19, 359, 359};

    /** The course by the signs of the rows' and of the columns' difference; the middle is never asked for. */
    private static final int[] COURSES = {7, 0, 1, 6, 0, 2, 5, 4, 3};

    /** A delivery's weight in the row of crews read as a number of base five, so that the least row is the least number. */
    private static final int[] ROW_WEIGHTS = {15625, 3125, 625, 125, 25, 5, 1};
    private static final long ROW_NUMBERS = 78125L;
    private static final int NO_CREW = 4;
    private static final long UNREACHED = 1L << 60;
    private static final int UNSEEN = 1 << 30;

    private final Tape tape;
    private final Reader reader;
    private final Sea sea;
    private final Boat[] boats;
    private final Offers offers;
    private final Plan latestPlan;
    private Rules spareRules;
    private Cover spareCover;
    private int worked;

    public BoatsHome() {
        tape = new Tape();
        reader = new Reader(tape);
        sea = new Sea();
        boats = new Boat[BOATS];
        for (int b = 0; b < BOATS; b++) {
            boats[b] = new Boat();
        }
        offers = new Offers();
        latestPlan = new Plan(offers);
        spareRules = new Rules();
        spareCover = new Cover();
        worked = 0;
    }

    public int feed(int a, int b, int c, int d, int e) {
        if (tape.length + FED > TAPE_ROOM) {
            return FULL;
        }
        tape.append(a);
        tape.append(b);
        tape.append(c);
        tape.append(d);
        tape.append(e);
        return tape.length;
    }

    public int end(int n) {
        if (!within(n, 0, tape.length)) {
            return NONE;
        }
        tape.length = n;
        return n;
    }

    public int wind(int zone, int month, int direction, int force) {
        if (!below(zone, ZONES) || !below(month, MONTHS) || !below(direction, 8) || !within(force, 0, MOST_FORCE)) {
            return RANGE;
        }
        int at = zone * MONTHS + month;
        int old = sea.winds[at];
        sea.winds[at] = 10 * direction + force;
        return old;
    }

    public int port(int p, int place) {
        if (!below(p, PORTS) || !isPlace(place)) {
            return RANGE;
        }
        int old = sea.ports[p];
        sea.ports[p] = place;
        return old;
    }

    public int speed(int b, int angle, int band, int tenths) {
        if (!below(b, BOATS) || !below(angle, ANGLES) || !below(band, BANDS) || !within(tenths, 0, MOST_SPEED)) {
            return RANGE;
        }
        int at = angle * BANDS + band;
        int old = boats[b].speeds[at];
        boats[b].speeds[at] = tenths;
        return old;
    }

    public int water(int b, int litres) {
        if (!below(b, BOATS) || !within(litres, 0, MOST_STORE)) {
            return RANGE;
        }
        int old = boats[b].litres;
        boats[b].litres = litres;
        return old;
    }

    public int lasts(int b, int part, int watches) {
        if (!below(b, BOATS) || !below(part, PARTS) || !within(watches, 0, MOST_STORE)) {
            return RANGE;
        }
        int old = boats[b].parts[part];
        boats[b].parts[part] = watches;
        return Math.max(old, 0);
    }

    public int skipper(int b) {
        if (!below(b, BOATS)) {
            return RANGE;
        }
        boolean good = reader.readRules(spareRules);
        tape.length = 0;
        if (!good) {
            return NONE;
        }
        Rules old = boats[b].rules;
        boats[b].rules = spareRules;
        spareRules = old;
        return boats[b].rules.size;
    }

    public int insurer(int b) {
        if (!below(b, BOATS)) {
            return RANGE;
        }
        boolean good = reader.readCover(spareCover);
        tape.length = 0;
        if (!good) {
            return NONE;
        }
        Cover old = boats[b].cover;
        boats[b].cover = spareCover;
        spareCover = old;
        return boats[b].cover.lines;
    }

    public int fault(int what) {
        switch (what) {
            case 0:
                return reader.faultKind;
            case 1:
                return reader.faultPlace;
            default:
                return NONE;
        }
    }

    public int covers(int b, int place, int day, int crew, int force) {
        if (!below(b, BOATS) || !isPlace(place) || !within(day, 0, LAST_DAY)
                || !within(crew, 0, MOST_PEOPLE) || !within(force, 0, MOST_FORCE)) {
            return RANGE;
        }
        return boats[b].cover.holds(place, day, crew, force) ? 1 : 0;
    }

    public int begin(int b, int p, int day, int crew) {
        if (!below(b, BOATS) || !below(p, PORTS) || !within(day, 0, LAST_FIRST_DAY) || !within(crew, 1, MOST_PEOPLE)) {
            return RANGE;
        }
        if (boats[b].trip.state == GOES_ON) {
            return STATE;
        }
        boats[b].trip.start(p, sea.ports[p], day, crew);
        return 1;
    }

    public int place(int b, int place) {
        if (!below(b, BOATS) || !isPlace(place)) {
            return RANGE;
        }
        Passage trip = boats[b].trip;
        if (trip.state != GOES_ON || trip.watches > 0) {
            return STATE;
        }
        return trip.addPlace(place) ? trip.placesLeft() : FULL;
    }

    public int sail(int b, int watches) {
        if (!below(b, BOATS) || !within(watches, 1, MOST_SAILED)) {
            return RANGE;
        }
        Passage trip = boats[b].trip;
        if (trip.state != GOES_ON || trip.wayLength == 0) {
            return STATE;
        }
        if (worked >= LOG_ROOM) {
            return FULL;
        }
        int done = 0;
        for (int k = 0; k < watches && worked < LOG_ROOM && trip.state == GOES_ON; k++) {
            if (trip.work(boats[b], sea)) {
                done++;
                worked++;
            }
        }
        return done;
    }

    public int passage(int b, int what) {
        if (!below(b, BOATS) || boats[b].trip.state == NOT_BEGUN) {
            return NONE_SUCH;
        }
        return boats[b].trip.tell(what);
    }

    public int boat(int b, int what) {
        if (!below(b, BOATS)) {
            return NONE_SUCH;
        }
        if (within(what, 10, 10 + PARTS - 1)) {
            return boats[b].parts[what - 10];
        }
        switch (what) {
            case 0:
                return boats[b].litres;
            case 1:
                return boats[b].broken();
            default:
                return NONE_SUCH;
        }
    }

    public int pay(int b, int kind, int sum, int less, int more) {
        if (!below(b, BOATS) || !within(kind, 0, 1) || !within(sum, 0, MOST_SUM)
                || !within(less, 0, MOST_CHANGE) || !within(more, 0, MOST_CHANGE)) {
            return PAY_RANGE;
        }
        Passage trip = boats[b].trip;
        if (trip.state == NOT_BEGUN) {
            return PAY_STATE;
        }
        int times = kind == 0 ? trip.begunDays() : trip.keptWhole() ? 1 : 0;
        return times * sum - less * trip.uncovered + more * trip.dry;
    }

    public int deliver(int from, int to, int days, int first, int last) {
        if (!below(from, PORTS) || !below(to, PORTS) || !within(days, 1, MOST_DAYS)
                || !within(first, 0, LAST_DAY) || !within(last, first, LAST_DAY)) {
            return RANGE;
        }
        if (offers.size >= DELIVERY_ROOM) {
            return FULL;
        }
        latestPlan.made = false;
        return offers.add(from, to, days, first, last);
    }

    public int crew(int c, int port, int day) {
        if (!below(c, CREWS) || !below(port, PORTS) || !within(day, 0, LAST_DAY)) {
            return RANGE;
        }
        latestPlan.made = false;
        offers.crewPorts[c] = port;
        offers.crewDays[c] = day;
        return 1;
    }

    public int flight(int p, int q, int cost) {
        if (!below(p, PORTS) || !below(q, PORTS) || p == q || !within(cost, NONE, MOST_COST)) {
            return RANGE;
        }
        latestPlan.made = false;
        int old = offers.fares[p * PORTS + q];
        offers.fares[p * PORTS + q] = cost;
        offers.fares[q * PORTS + p] = cost;
        return old;
    }

    public int plan() {
        if (!latestPlan.made) {
            latestPlan.make();
        }
        return latestPlan.done;
    }

    public int planned(int what) {
        if (!latestPlan.made) {
            return NONE_SUCH;
        }
        if (what == 0) {
            return latestPlan.flightSum;
        }
        if (within(what, 10, 10 + offers.size - 1)) {
            return latestPlan.crewOf[what - 10];
        }
        if (within(what, 20, 20 + offers.size - 1)) {
            return latestPlan.dayOf[what - 20];
        }
        return NONE_SUCH;
    }

    public int count(int what) {
        if (within(what, 10, 10 + BOATS - 1)) {
            return boats[what - 10].rules.size;
        }
        if (within(what, 20, 20 + BOATS - 1)) {
            return boats[what - 20].cover.boxCount;
        }
        if (within(what, 30, 30 + PORTS - 1)) {
            return sea.ports[what - 30];
        }
        switch (what) {
            case 0:
                return worked;
            case 1:
                return offers.size;
            case 2:
                return offers.crewsTold();
            case 3:
                return tape.length;
            default:
                return NONE;
        }
    }

    private static boolean within(int number, int least, int most) {
        return number >= least && number <= most;
    }

    private static boolean below(int number, int bound) {
        return number >= 0 && number < bound;
    }

    private static boolean isPlace(int place) {
        return place >= 0 && columnOf(place) < COLUMNS && rowOf(place) < ROWS;
    }

    private static int columnOf(int place) {
        return place / 100;
    }

    private static int rowOf(int place) {
        return place % 100;
    }

    /** Bytes are kept as numbers 0 .. 255, so that none is below 0. */
    private static final class Tape {
        final int[] bytes = new int[TAPE_ROOM];
        int length = 0;

        void append(int four) {
            for (int shift = 24; shift >= 0 && length < TAPE_ROOM; shift -= 8) {
                bytes[length] = (four >>> shift) & 255;
                length++;
            }
        }

        int byteAt(int index) {
            return index >= 0 && index < length && index < TAPE_ROOM ? bytes[index] : NONE;
        }
    }

    /** The tape's tokens one by one: the one that is looked at, and where it stands. */
    private static final class Tokens {
        static final int AT_END = 0;
        static final int WORD = 1;
        static final int NUMBER = 2;
        static final int STOP = 3;
        static final int OTHER = 4;

        private final Tape tape;
        int kind = AT_END;
        int start = 0;
        int number = 0;
        private int behind = 0;

        Tokens(Tape tape) {
            this.tape = tape;
        }

        void restart() {
            behind = 0;
            advance();
        }

        void advance() {
            skipBlanks();
            start = behind;
            int first = tape.byteAt(start);
            if (first == NONE) {
                kind = AT_END;
            } else if (isLetter(first)) {
                readWord();
            } else if (isDigit(first)) {
                readNumber();
            } else {
                kind = first == ';' ? STOP : OTHER;
                behind = start + 1;
            }
        }

        boolean spells(String word) {
            if (kind != WORD || behind - start != word.length()) {
                return false;
            }
            for (int k = 0; k < word.length(); k++) {
                if (tape.byteAt(start + k) != word.charAt(k)) {
                    return false;
                }
            }
            return true;
        }

        private void skipBlanks() {
            while (behind < tape.length && isBlank(tape.byteAt(behind))) {
                behind++;
            }
        }

        private void readWord() {
            kind = WORD;
            while (behind < tape.length && isLetter(tape.byteAt(behind))) {
                behind++;
            }
        }

        private void readNumber() {
            number = 0;
            while (behind < tape.length && behind - start < 5 && isDigit(tape.byteAt(behind))) {
                number = 10 * number + tape.byteAt(behind) - '0';
                behind++;
            }
            kind = behind - start > 4 ? OTHER : NUMBER;
        }

        private static boolean isBlank(int c) {
            return c == 32 || c == 10;
        }

        private static boolean isLetter(int c) {
            return c >= 'a' && c <= 'z';
        }

        private static boolean isDigit(int c) {
            return c >= '0' && c <= '9';
        }
    }

    /** Reads the tape as one of the two texts, up to the first fault. */
    private static final class Reader {
        private final Tokens tokens;
        int faultKind = 0;
        int faultPlace = NONE;

        Reader(Tape tape) {
            tokens = new Tokens(tape);
        }

        boolean readRules(Rules into) {
            into.size = 0;
            beginText();
            for (int k = 0; k <= TAPE_ROOM && tokens.kind != Tokens.AT_END; k++) {
                if (!readRule(into)) {
                    return false;
                }
            }
            return true;
        }

        boolean readCover(Cover into) {
            into.clear();
            beginText();
            for (int k = 0; k <= TAPE_ROOM && tokens.kind != Tokens.AT_END; k++) {
                if (!readLine(into) || !takeStop()) {
                    return false;
                }
                into.lines++;
            }
            into.fillUntold();
            return true;
        }

        private void beginText() {
            faultKind = 0;
            faultPlace = NONE;
            tokens.restart();
        }

        private boolean readRule(Rules into) {
            if (!tokens.spells("when")) {
                return refuse(SYNTAX);
            }
            if (into.size >= RULE_ROOM) {
                return refuse(NO_ROOM);
            }
            tokens.advance();
            int seen = takeOneOf("force", "water", "day", "broken");
            int side = seen == NONE ? NONE : takeOneOf("above", "below", "", "");
            int bound = side == NONE ? NONE : takeNumber(9999);
            if (bound == NONE || !takeWord("do")) {
                return false;
            }
            int act = takeOneOf("wait", "turn", "end", "");
            if (act == NONE || !takeStop()) {
                return false;
            }
            into.add(seen, side == 0, bound, act);
            return true;
        }

        private boolean readLine(Cover into) {
            if (tokens.spells("box")) {
                return into.boxCount >= BOX_ROOM ? refuse(NO_ROOM) : readBox(into);
            }
            if (tokens.spells("crew")) {
                return into.leastCrew != NONE ? refuse(TWICE) : readCrew(into);
            }
            if (tokens.spells("force")) {
                return into.mostForce != NONE ? refuse(TWICE) : readForce(into);
            }
            return refuse(SYNTAX);
        }

        private boolean readBox(Cover into) {
            tokens.advance();
            int base = into.boxCount * BOX_NUMBERS;
            for (int k = 0; k < BOX_NUMBERS; k++) {
                if (k == 4 && !takeWord("from") || k == 5 && !takeWord("to")) {
                    return false;
                }
                int number = takeNumber(BOX_BOUNDS[k]);
                if (number == NONE) {
                    return false;
                }
                into.boxes[base + k] = number;
            }
            into.boxCount++;
            return true;
        }

        private boolean readCrew(Cover into) {
            tokens.advance();
            into.leastCrew = takeNumber(MOST_PEOPLE);
            return into.leastCrew != NONE;
        }

        private boolean readForce(Cover into) {
            tokens.advance();
            into.mostForce = takeNumber(MOST_FORCE);
            return into.mostForce != NONE;
        }

        private boolean takeWord(String word) {
            if (!tokens.spells(word)) {
                return refuse(SYNTAX);
            }
            tokens.advance();
            return true;
        }

        /** Which of the words stands here; an empty one stands for none. */
        private int takeOneOf(String a, String b, String c, String d) {
            int which = tokens.spells(a) ? 0 : tokens.spells(b) ? 1 : tokens.spells(c) ? 2 : tokens.spells(d) ? 3 : NONE;
            if (which == NONE) {
                refuse(SYNTAX);
            } else {
                tokens.advance();
            }
            return which;
        }

        private int takeNumber(int most) {
            if (tokens.kind != Tokens.NUMBER || tokens.number > most) {
                refuse(tokens.kind != Tokens.NUMBER ? SYNTAX : OUT_OF_BOUNDS);
                return NONE;
            }
            int number = tokens.number;
            tokens.advance();
            return number;
        }

        private boolean takeStop() {
            if (tokens.kind != Tokens.STOP) {
                return refuse(SYNTAX);
            }
            tokens.advance();
            return true;
        }

        private boolean refuse(int kind) {
            faultKind = kind;
            faultPlace = tokens.start;
            return false;
        }
    }

    /** A skipper's text. */
    private static final class Rules {
        private final int[] seen = new int[RULE_ROOM];
        private final boolean[] above = new boolean[RULE_ROOM];
        private final int[] bounds = new int[RULE_ROOM];
        private final int[] acts = new int[RULE_ROOM];
        int size = 0;

        void add(int what, boolean isAbove, int bound, int act) {
            if (below(size, RULE_ROOM)) {
                seen[size] = what;
                above[size] = isAbove;
                bounds[size] = bound;
                acts[size] = act;
                size++;
            }
        }

        /** What the first rule that holds does, or NONE. */
        int actAt(int force, int litres, int daysAgo, int broken) {
            for (int k = 0; k < size && k < RULE_ROOM; k++) {
                int number = pick(seen[k], force, litres, daysAgo, broken);
                if (above[k] ? number > bounds[k] : number < bounds[k]) {
                    return acts[k];
                }
            }
            return NONE;
        }

        private static int pick(int what, int force, int litres, int daysAgo, int broken) {
            switch (what) {
                case SEEN_FORCE:
                    return force;
                case SEEN_WATER:
                    return litres;
                case SEEN_DAY:
                    return daysAgo;
                default:
                    return broken;
            }
        }
    }

    /** An insurer's text; while it is read NONE stands for a crew or force that is not told yet. */
    private static final class Cover {
        final int[] boxes = new int[BOX_ROOM * BOX_NUMBERS];
        int boxCount = 0;
        int leastCrew = 0;
        int mostForce = MOST_FORCE;
        int lines = 0;

        void clear() {
            boxCount = 0;
            leastCrew = NONE;
            mostForce = NONE;
            lines = 0;
        }

        void fillUntold() {
            leastCrew = leastCrew == NONE ? 0 : leastCrew;
            mostForce = mostForce == NONE ? MOST_FORCE : mostForce;
        }

        boolean holds(int place, int day, int people, int force) {
            if (people < leastCrew || force > mostForce) {
                return false;
            }
            for (int k = 0; k < boxCount && k < BOX_ROOM; k++) {
                if (boxHolds(k * BOX_NUMBERS, place, day % DAYS_A_YEAR)) {
                    return false;
                }
            }
            return true;
        }

        private boolean boxHolds(int base, int place, int date) {
            return between(columnOf(place), boxes[base], boxes[base + 2])
                    && between(rowOf(place), boxes[base + 1], boxes[base + 3])
                    && inSeason(date, boxes[base + 4], boxes[base + 5]);
        }

        private static boolean between(int number, int one, int other) {
            return within(number, Math.min(one, other), Math.max(one, other));
        }

        private static boolean inSeason(int date, int from, int to) {
            return to < from ? date >= from || date <= to : within(date, from, to);
        }
    }

    /** The winds (10 times the direction and the force) by zone and month, and the ports' places. */
    private static final class Sea {
        final int[] winds = new int[ZONES * MONTHS];
        final int[] ports = new int[PORTS];

        int windAt(int place, int day) {
            int zone = rowOf(place) / 5 * 6 + columnOf(place) / 5;
            int at = zone * MONTHS + day % DAYS_A_YEAR / 30;
            return below(at, ZONES * MONTHS) ? winds[at] : 0;
        }
    }

    private static final class Boat {
        final int[] speeds = new int[ANGLES * BANDS];
        /** Below 0 is broken: a part that lasts 0 watches still holds until the next one. */
        final int[] parts = {MOST_STORE, MOST_STORE, MOST_STORE, MOST_STORE};
        int litres = 0;
        Rules rules = new Rules();
        Cover cover = new Cover();
        final Passage trip = new Passage();

        int broken() {
            int sum = 0;
            for (int k = 0; k < PARTS; k++) {
                sum += parts[k] < 0 ? 1 : 0;
            }
            return sum;
        }

        void wear() {
            for (int k = 0; k < PARTS; k++) {
                parts[k] = Math.max(parts[k] - 1, NONE);
            }
        }

        /** Whether there was enough for all. */
        boolean drink(int people) {
            boolean enough = litres >= people;
            litres = Math.max(litres - people, 0);
            return enough;
        }

        int speedAt(int angle, int force) {
            int at = angle * BANDS + force / 2;
            return below(at, ANGLES * BANDS) ? speeds[at] : 0;
        }
    }

    private static final class Passage {
        private final int[] way = new int[WAY_ROOM];
        int wayLength = 0;
        private int passed = 0;
        int state = NOT_BEGUN;
        private int homePort = 0;
        private int firstDay = 0;
        private int people = 0;
        private int at = 0;
        private int gone = 0;
        private boolean turned = false;
        int watches = 0;
        private int cells = 0;
        private int waited = 0;
        int uncovered = 0;
        private int firstUncovered = NONE;
        int dry = 0;

        void start(int port, int place, int day, int crewSize) {
            wayLength = 0;
            passed = 0;
            state = GOES_ON;
            homePort = port;
            firstDay = day;
            people = crewSize;
            at = place;
            gone = 0;
            turned = false;
            watches = 0;
            cells = 0;
            waited = 0;
            uncovered = 0;
            firstUncovered = NONE;
            dry = 0;
        }

        boolean addPlace(int place) {
            if (!below(wayLength, WAY_ROOM)) {
                return false;
            }
            way[wayLength] = place;
            wayLength++;
            return true;
        }

        int placesLeft() {
            return wayLength - passed;
        }

        int begunDays() {
            return (watches + WATCHES_A_DAY - 1) / WATCHES_A_DAY;
        }

        boolean keptWhole() {
            return state == ARRIVED && !turned;
        }

        int tell(int what) {
            switch (what) {
                case 0:
                    return state;
                case 1:
                    return watches;
                case 2:
                    return at;
                case 3:
                    return gone;
                case 4:
                    return turned ? 1 : 0;
                case 5:
                    return cells;
                case 6:
                    return waited;
                case 7:
                    return uncovered;
                case 8:
                    return dry;
                case 9:
                    return placesLeft();
                case 10:
                    return firstUncovered;
                default:
                    return NONE_SUCH;
            }
        }

        /** Works a watch; false if it was given up, which is no watch. */
        boolean work(Boat boat, Sea sea) {
            int daysAgo = watches / WATCHES_A_DAY;
            int wind = sea.windAt(at, firstDay + daysAgo);
            int force = wind % 10;
            int act = boat.rules.actAt(force, boat.litres, daysAgo, boat.broken());
            if (act == GIVE_UP) {
                state = GIVEN_UP;
                return false;
            }
            noteCover(boat.cover.holds(at, firstDay + daysAgo, people, force));
            if (act == TURN && !turned) {
                turnHome(sea);
            }
            if (act == WAIT) {
                waited++;
            } else {
                move(boat, wind / 10, force);
            }
            dry += boat.drink(people) ? 0 : 1;
            boat.wear();
            watches++;
            return true;
        }

        private void noteCover(boolean covered) {
            if (!covered) {
                uncovered++;
                firstUncovered = firstUncovered == NONE ? watches : firstUncovered;
            }
        }

        private void turnHome(Sea sea) {
            turned = true;
            way[0] = below(homePort, PORTS) ? sea.ports[homePort] : at;
            wayLength = 1;
            passed = 0;
        }

        private void move(Boat boat, int direction, int force) {
            passPlaces();
            if (state != GOES_ON) {
                return;
            }
            int away = Math.abs(course() - direction);
            gone += boat.speedAt(Math.min(away, 8 - away), force);
            while (gone >= 10 && state == GOES_ON) {
                gone -= 10;
                step();
            }
        }

        private void step() {
            at += 100 * columnSign() + rowSign();
            cells++;
            passPlaces();
            if (state == ARRIVED) {
                gone = 0;
            }
        }

        private void passPlaces() {
            while (passed < wayLength && passed < WAY_ROOM && way[passed] == at) {
                passed++;
            }
            if (passed >= wayLength) {
                state = ARRIVED;
            }
        }

        private int course() {
            int index = 3 * (rowSign() + 1) + columnSign() + 1;
            return below(index, 9) ? COURSES[index] : 0;
        }

        private int nextPlace() {
            return below(passed, WAY_ROOM) ? way[passed] : at;
        }

        private int columnSign() {
            return Integer.compare(columnOf(nextPlace()), columnOf(at));
        }

        private int rowSign() {
            return Integer.compare(rowOf(nextPlace()), rowOf(at));
        }
    }

    /** The deliveries, crews and flights that are told. */
    private static final class Offers {
        final int[] from = new int[DELIVERY_ROOM];
        final int[] to = new int[DELIVERY_ROOM];
        final int[] days = new int[DELIVERY_ROOM];
        private final int[] first = new int[DELIVERY_ROOM];
        private final int[] last = new int[DELIVERY_ROOM];
        int size = 0;
        final int[] crewPorts = {NONE, NONE, NONE, NONE};
        final int[] crewDays = new int[CREWS];
        final int[] fares = new int[PORTS * PORTS];

        Offers() {
            Arrays.fill(fares, NONE);
            for (int p = 0; p < PORTS; p++) {
                fares[p * PORTS + p] = 0;
            }
        }

        int add(int fromPort, int toPort, int length, int firstDay, int lastDay) {
            if (!below(size, DELIVERY_ROOM)) {
                return FULL;
            }
            from[size] = fromPort;
            to[size] = toPort;
            days[size] = length;
            first[size] = firstDay;
            last[size] = lastDay;
            size++;
            return size - 1;
        }

        int crewsTold() {
            int sum = 0;
            for (int c = 0; c < CREWS; c++) {
                sum += crewPorts[c] == NONE ? 0 : 1;
            }
            return sum;
        }

        /** What it costs a crew at a port to come to where a delivery begins, or NONE. */
        int fareTo(int delivery, int fromPort) {
            return below(fromPort, PORTS) ? fares[fromPort * PORTS + from[delivery]] : NONE;
        }

        /** The day on which a delivery begins if a crew is free at a port from a day on, or NONE. */
        int startOf(int delivery, int fromPort, int day) {
            if (fareTo(delivery, fromPort) == NONE) {
                return NONE;
            }
            int there = fromPort == from[delivery] ? day : day + 1;
            int start = Math.max(there, first[delivery]);
            return start <= last[delivery] ? start : NONE;
        }
    }

    /** For each crew and set of deliveries the cheapest order, and of those the least row. */
    private static final class Orders {
        private final Offers offers;
        final int[] costs = new int[CREWS * SETS];
        /** An order's deliveries, each plus 1, as digits of base eight, the first one highest. */
        final int[] orders = new int[CREWS * SETS];
        private final int[] seenDays = new int[SETS * DELIVERY_ROOM];
        private final int[] seenCosts = new int[SETS * DELIVERY_ROOM];

        Orders(Offers offers) {
            this.offers = offers;
        }

        /** Of a crew that is told. */
        void search(int crew) {
            for (int set = 0; set < SETS; set++) {
                costs[crew * SETS + set] = NONE;
            }
            Arrays.fill(seenDays, UNSEEN);
            Arrays.fill(seenCosts, UNSEEN);
            extend(crew, 0, 0, offers.crewPorts[crew], offers.crewDays[crew], 0, 0);
        }

        private void extend(int crew, int depth, int set, int port, int day, int cost, int order) {
            if (depth >= DELIVERY_ROOM) {
                return;
            }
            for (int d = 0; d < offers.size && d < DELIVERY_ROOM; d++) {
                int start = (set >> d & 1) != 0 ? NONE : offers.startOf(d, port, day);
                if (start != NONE) {
                    int free = start + offers.days[d];
                    int paid = cost + offers.fareTo(d, port);
                    int wider = set | 1 << d;
                    if (!outdone(wider * DELIVERY_ROOM + d, free, paid)) {
                        keep(crew * SETS + wider, paid, order * 8 + d + 1);
                        extend(crew, depth + 1, wider, offers.to[d], free, paid, order * 8 + d + 1);
                    }
                }
            }
        }

        /**
         * Lesser rows are come to first: behind one with the same set and last delivery that was free
         * no later and cost no more, no order that goes on from here can be the one that is due.
         */
        private boolean outdone(int at, int free, int paid) {
            if (seenDays[at] <= free && seenCosts[at] <= paid) {
                return true;
            }
            if (free <= seenDays[at] && paid <= seenCosts[at]) {
                seenDays[at] = free;
                seenCosts[at] = paid;
            }
            return false;
        }

        private void keep(int at, int paid, int order) {
            if (costs[at] == NONE || paid < costs[at]) {
                costs[at] = paid;
                orders[at] = order;
            }
        }
    }

    private static final class Plan {
        private final Offers offers;
        private final Orders orders;
        /**
         * For each set of deliveries the least of all ways in which the crews so far do just these: the
         * flights' sum times ROW_NUMBERS and the row of crews as a number. Both only add up from crew to
         * crew, so the least of the whole is found from the least of its pieces.
         */
        private final long[] least = new long[SETS];
        final int[] crewOf = new int[DELIVERY_ROOM];
        final int[] dayOf = new int[DELIVERY_ROOM];
        boolean made = false;
        int done = 0;
        int flightSum = 0;

        Plan(Offers offers) {
            this.offers = offers;
            orders = new Orders(offers);
        }

        void make() {
            Arrays.fill(least, UNREACHED);
            least[0] = 0;
            for (int c = 0; c < CREWS; c++) {
                if (offers.crewPorts[c] != NONE) {
                    orders.search(c);
                    joinCrew(c);
                }
            }
            choose();
            for (int c = 0; c < CREWS; c++) {
                setDays(c);
            }
            made = true;
        }

        /** From the widest set down, so that what is joined to has none of this crew's yet. */
        private void joinCrew(int crew) {
            for (int set = (1 << offers.size) - 1; set > 0; set--) {
                for (int part = set; part > 0; part = (part - 1) & set) {
                    int cost = orders.costs[crew * SETS + part];
                    if (cost != NONE && least[set ^ part] < UNREACHED) {
                        long value = least[set ^ part] + cost * ROW_NUMBERS + crew * weightOf(part);
                        least[set] = Math.min(least[set], value);
                    }
                }
            }
        }

        private void choose() {
            int all = (1 << offers.size) - 1;
            long best = UNREACHED;
            done = 0;
            for (int set = 0; set <= all; set++) {
                int size = Integer.bitCount(set);
                if (least[set] < UNREACHED && size >= done) {
                    long value = least[set] + NO_CREW * weightOf(all ^ set);
                    best = size > done ? value : Math.min(best, value);
                    done = size;
                }
            }
            flightSum = (int) (best / ROW_NUMBERS);
            readRow((int) (best % ROW_NUMBERS));
        }

        private void readRow(int row) {
            for (int d = 0; d < DELIVERY_ROOM; d++) {
                int crew = row / ROW_WEIGHTS[d] % 5;
                crewOf[d] = crew == NO_CREW ? NONE : crew;
                dayOf[d] = NONE;
            }
        }

        private void setDays(int crew) {
            int set = 0;
            for (int d = 0; d < offers.size && d < DELIVERY_ROOM; d++) {
                set |= crewOf[d] == crew ? 1 << d : 0;
            }
            if (set == 0) {
                return;
            }
            int order = orders.orders[crew * SETS + set];
            int port = offers.crewPorts[crew];
            int day = offers.crewDays[crew];
            for (int shift = 3 * (DELIVERY_ROOM - 1); shift >= 0; shift -= 3) {
                int d = (order >> shift & 7) - 1;
                if (d >= 0) {
                    dayOf[d] = offers.startOf(d, port, day);
                    day = dayOf[d] + offers.days[d];
                    port = offers.to[d];
                }
            }
        }

        private static long weightOf(int set) {
            long sum = 0;
            for (int d = 0; d < DELIVERY_ROOM; d++) {
                sum += (set >> d & 1) * ROW_WEIGHTS[d];
            }
            return sum;
        }
    }
}
