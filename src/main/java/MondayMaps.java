import java.util.Arrays;

/**
 * A town whose streets go another way by weekdays, maps that are each true on one of them,
 * and walkers who go by these maps.
 *
 * <p>All rows are made once, in the constructor; no call makes an object.
 */
public final class MondayMaps {
    /** None. */
    public static final int NONE = -1;

    private static final int REFUSED = -2;
    private static final int WEEK = 7;
    private static final int YEAR = 360;
    private static final int DAY_HOURS = 24;
    private static final int LAST_HOUR = 99999;
    private static final int HORIZON = 2000;

    private static final int MOST_BYTES = 400;
    private static final int MOST_CORNERS = 10;
    private static final int MOST_STREETS = 12;
    private static final int MOST_SAINTS = 8;
    private static final int MOST_LIFTS = 4;
    private static final int MOST_RULES = 6;
    private static final int MOST_MAPS = 4;
    private static final int MOST_WALKERS = 4;
    private static final int MOST_ERRANDS = 6;
    private static final int MOST_SIGHTS = 12;
    private static final int MOST_CAME = 8;
    private static final int MOST_IMAGES = 4;

    private static final int BOTH_WAYS = 3;

    private static final int WRONG_BYTE = 0;
    private static final int WRONG_NUMBER = 1;
    private static final int TOO_DEEP = 2;
    private static final int TOO_MANY_VALUES = 3;
    private static final int TOO_MANY_CLAUSES = 4;

    private static final int GO = 0;
    private static final int ASIDE = 1;
    private static final int ASK = 2;
    private static final int WAIT = 3;
    private static final int NOTHING = 4;

    // What a RULE's code is made of: the WORDS in the order of VALUE_WORDS, then signs, then numbers.
    private static final String VALUE_WORDS = "hour day date corner goal shut left steps asked came ";
    private static final int FIRST_OPERATOR = 10;
    private static final int ADD = 10;
    private static final int SUBTRACT = 11;
    private static final int MULTIPLY = 12;
    private static final int DIVIDE = 13;
    private static final int LESS = 14;
    private static final int LESS_OR_SAME = 15;
    private static final int SAME = 16;
    private static final int MORE_OR_SAME = 17;
    private static final int MORE = 18;
    private static final int NOT = 19;
    private static final int AND = 20;
    private static final int OR = 21;
    private static final int FIRST_NUMBER = 32;

    private final Tape tape;
    private final Town draft;
    private final Rule[] rules;
    private final RuleReader ruleReader;
    private final State state;
    private final State[] images;
    private final boolean[] imageMade;
    private final Atlas atlas;
    private final Legs legs;
    private final Trials trials;
    private final Search search;
    private final Weave weave;
    private int ruleCount;

    public MondayMaps() {
        tape = new Tape();
        draft = new Town();
        rules = new Rule[MOST_RULES];
        for (int i = 0; i < MOST_RULES; i++) {
            rules[i] = new Rule();
        }
        ruleReader = new RuleReader(tape);
        state = new State();
        images = new State[MOST_IMAGES];
        for (int i = 0; i < MOST_IMAGES; i++) {
            images[i] = new State();
        }
        imageMade = new boolean[MOST_IMAGES];
        atlas = new Atlas(state);
        legs = new Legs(state, atlas, rules);
        trials = new Trials(state, atlas, legs);
        search = new Search(state);
        weave = new Weave(state);
    }

    public int feed(int a, int b, int c, int d, int e) {
        if (!tape.hasRoom()) {
            return NONE;
        }
        tape.append(a);
        tape.append(b);
        tape.append(c);
        tape.append(d);
        tape.append(e);
        return tape.length;
    }

    public int end(int n) {
        if (n < 0 || n > tape.length) {
            return NONE;
        }
        tape.length = n;
        return n;
    }

    public int town() {
        draft.readFrom(tape);
        int fault = tape.fault;
        tape.length = 0;
        if (fault != 0) {
            return REFUSED - fault;
        }
        state.moveTo(draft);
        atlas.forgetAll();
        return state.town.streets;
    }

    public int rule() {
        if (ruleCount >= MOST_RULES) {
            return NONE;
        }
        ruleReader.readInto(rules[ruleCount]);
        int fault = tape.fault;
        tape.length = 0;
        if (fault != 0) {
            return REFUSED - fault;
        }
        ruleCount++;
        return ruleCount - 1;
    }

    public int street(int street, int what) {
        Town town = state.town;
        if (!town.hasStreet(street) || what < 0 || what > 9) {
            return NONE;
        }
        if (what < 2) {
            return town.ends[2 * street + what];
        }
        return what == 2 ? town.hours[street] : town.signOn(street, what - 3);
    }

    public int open(int street, int corner, int hour) {
        Town town = state.town;
        if (!town.hasStreet(street) || hour < 0) {
            return NONE;
        }
        int side = town.sideOf(street, corner);
        if (side == NONE) {
            return NONE;
        }
        return town.isOpen(street, side, hour, true) ? 1 : 0;
    }

    public int print(int day) {
        if (!isWeekday(day) || !state.hasTown() || state.maps >= MOST_MAPS) {
            return REFUSED;
        }
        int map = state.maps;
        for (int i = 0; i < state.town.streets; i++) {
            state.mapSigns[map * MOST_STREETS + i] = state.town.signOn(i, day);
        }
        state.maps++;
        atlas.forget(map);
        return map;
    }

    public int misprint(int map, int street, int sign) {
        if (!hasMap(map) || !state.town.hasStreet(street) || !isSign(sign)) {
            return NONE;
        }
        int at = map * MOST_STREETS + street;
        int was = state.mapSigns[at];
        state.mapSigns[at] = sign;
        atlas.forget(map);
        return was;
    }

    public int shown(int map, int street) {
        if (!hasMap(map) || !state.town.hasStreet(street)) {
            return NONE;
        }
        return state.mapSigns[map * MOST_STREETS + street];
    }

    public int by(int map, int from, int to, int what) {
        if (!hasMap(map) || !hasCorner(from) || !hasCorner(to) || what < 0 || what > 1) {
            return NONE;
        }
        atlas.refresh(map);
        int answer = what == 0 ? atlas.hoursBy(map, from, to) : atlas.streetBy(map, from, to);
        return answer == NONE ? REFUSED : answer;
    }

    public int walker(int corner, int goal, int map, int rule, int hour) {
        if (!hasCorner(corner) || !hasCorner(goal) || !hasMap(map)) {
            return REFUSED;
        }
        if (!hasRuleOrNone(rule) || hour < 0 || state.walkerCount >= MOST_WALKERS) {
            return REFUSED;
        }
        Walker w = state.walkers[state.walkerCount];
        w.setOut(corner, goal, map, rule, hour);
        state.walkerCount++;
        return state.walkerCount - 1;
    }

    public int about(int walker, int what) {
        if (!hasWalker(walker) || what < 0 || what > 7) {
            return NONE;
        }
        return state.walkers[walker].tell(what);
    }

    public int step(int walker, int n) {
        if (!hasWalker(walker) || n < 1 || n > 200) {
            return NONE;
        }
        atlas.refreshAll();
        Walker w = state.walkers[walker];
        legs.takeSteps(w, n);
        return w.corner;
    }

    public int soonest(int from, int to, int hour) {
        if (!hasCorner(from) || !hasCorner(to) || !isAskedHour(hour)) {
            return NONE;
        }
        int arrival = search.firstArrival(state.town.streets, from, to, hour);
        return arrival == NONE ? REFUSED : arrival;
    }

    public int way(int from, int to, int hour, int k) {
        if (!hasCorner(from) || !hasCorner(to) || !isAskedHour(hour) || k < 0) {
            return NONE;
        }
        int street = search.streetOnWay(from, to, hour, k);
        return street == NONE ? REFUSED : street;
    }

    public int comes(int walker, int n, int what) {
        if (!hasWalker(walker) || n < 0 || n > 400 || what < 0 || what > 2) {
            return NONE;
        }
        atlas.refreshAll();
        return trials.tellComing(state.walkers[walker], n, what);
    }

    public int round(int walker, int what) {
        if (!hasWalker(walker) || what < 0 || what > 1) {
            return NONE;
        }
        atlas.refreshAll();
        return trials.tellCircle(state.walkers[walker], what);
    }

    public int questions(int walker, int n) {
        if (!hasWalker(walker) || n < 0 || n > Trials.LONGEST_ASKING) {
            return NONE;
        }
        atlas.refreshAll();
        return trials.fewestQuestions(state.walkers[walker], n);
    }

    public int cheap(int street) {
        return state.town.hasStreet(street) ? state.town.commonSign(street) : NONE;
    }

    public int wrong(int day) {
        if (!state.hasTown() || day < 0 || day > WEEK) {
            return NONE;
        }
        int sum = 0;
        for (int i = 0; i < state.town.streets; i++) {
            sum += state.town.commonSignWrong(i, day);
        }
        return sum;
    }

    public int errand(int from, int to) {
        if (from == NONE) {
            state.errands = 0;
            return 0;
        }
        if (!hasCorner(from) || !hasCorner(to) || from == to || state.errands >= MOST_ERRANDS) {
            return REFUSED;
        }
        state.errandFrom[state.errands] = from;
        state.errandTo[state.errands] = to;
        state.errands++;
        return state.errands;
    }

    public int ways(int day, int what) {
        if (!state.hasTown() || !isWeekday(day) || what < 0 || what > 1) {
            return NONE;
        }
        weave.takeDay(day);
        int clash = weave.findClash();
        if (what == 1) {
            return clash;
        }
        return clash != 0 ? REFUSED : weave.findLeast();
    }

    public int sight(int street, int sign) {
        if (street == NONE) {
            state.sights = 0;
            return 0;
        }
        if (!state.town.hasStreet(street) || !isSign(sign) || state.sights >= MOST_SIGHTS) {
            return REFUSED;
        }
        state.sightStreet[state.sights] = street;
        state.sightSign[state.sights] = sign;
        state.sights++;
        return state.sights;
    }

    public int weekdays(int what) {
        if (!state.hasTown() || what < 0 || what > 1) {
            return NONE;
        }
        int days = state.fittingDays();
        if (what == 0) {
            return days;
        }
        return days == 0 ? REFUSED : state.streetToLookAt(days);
    }

    public int came(int corner) {
        if (corner == NONE) {
            state.arrivals = 0;
            return 0;
        }
        if (!hasCorner(corner) || state.arrivals >= MOST_CAME) {
            return REFUSED;
        }
        state.arrival[state.arrivals] = corner;
        state.arrivals++;
        return state.arrivals;
    }

    public int had(int walker) {
        if (!hasWalker(walker)) {
            return NONE;
        }
        atlas.refreshAll();
        return trials.fittingMaps(state.walkers[walker]);
    }

    public int built(int hours, int hour, int what) {
        if (!state.hasTown() || hours < 1 || hours > 9 || !isAskedHour(hour)) {
            return NONE;
        }
        return what < 0 || what > 2 ? NONE : search.tellBest(hours, hour, what);
    }

    public int seed(int x) {
        if (x < 0) {
            return NONE;
        }
        int was = state.x;
        state.x = x;
        return was;
    }

    public int strangers(int rule, int m, int n, int what) {
        if (!hasRuleOrNone(rule) || state.maps == 0 || m < 1 || m > 30) {
            return NONE;
        }
        if (n < 1 || n > 200 || what < 0 || what > 1) {
            return NONE;
        }
        atlas.refreshAll();
        return trials.tellStrangers(rule, m, n, what);
    }

    public int count(int what) {
        switch (what) {
            case 0:
                return state.town.corners;
            case 1:
                return state.town.streets;
            case 2:
                return state.town.saints;
            case 3:
                return state.town.lifts;
            case 4:
                return ruleCount;
            case 5:
                return state.maps;
            case 6:
                return state.walkerCount;
            case 7:
                return state.errands;
            case 8:
                return state.sights;
            case 9:
                return state.arrivals;
            case 10:
                return state.x;
            case 11:
                return tape.length;
            default:
                return NONE;
        }
    }

    public int image(int k) {
        if (k < 0 || k >= MOST_IMAGES) {
            return NONE;
        }
        images[k].copyFrom(state);
        imageMade[k] = true;
        return state.walkerCount;
    }

    public int back(int k) {
        if (k < 0 || k >= MOST_IMAGES || !imageMade[k]) {
            return NONE;
        }
        state.copyFrom(images[k]);
        atlas.forgetAll();
        return state.walkerCount;
    }

    private boolean hasCorner(int corner) {
        return corner >= 0 && corner < state.town.corners;
    }

    private boolean hasMap(int map) {
        return map >= 0 && map < state.maps;
    }

    private boolean hasWalker(int walker) {
        return walker >= 0 && walker < state.walkerCount;
    }

    private boolean hasRuleOrNone(int rule) {
        return rule >= NONE && rule < ruleCount;
    }

    private static boolean isWeekday(int day) {
        return day >= 0 && day < WEEK;
    }

    private static boolean isSign(int sign) {
        return sign >= 0 && sign <= BOTH_WAYS;
    }

    private static boolean isAskedHour(int hour) {
        return hour >= 0 && hour <= LAST_HOUR;
    }

    /** The TAPE, and a place on it from which it is read; only the first FAULT is kept. */
    static final class Tape {
        private static final int FEED = 20;
        private static final int MOST_DIGITS = 5;

        private final int[] bytes = new int[MOST_BYTES];
        private int place;
        int length;
        int began;
        int fault;

        boolean hasRoom() {
            return length + FEED <= MOST_BYTES;
        }

        void append(int four) {
            for (int shift = 24; shift >= 0 && length < MOST_BYTES; shift -= 8) {
                bytes[length] = (four >> shift) & 255;
                length++;
            }
        }

        void startReading() {
            place = 0;
            began = 0;
            fault = 0;
        }

        void blame(int where, int kind) {
            if (fault == 0) {
                fault = 1 + 8 * where + kind;
            }
        }

        boolean isFaulty() {
            return fault != 0;
        }

        /** The byte at the place, NONE behind the last one. */
        int look() {
            return place < length ? bytes[place] : NONE;
        }

        /** The byte behind blanks, which is where the next thing read begins. */
        int lookBehindBlanks() {
            while (place < length && bytes[place] == ' ') {
                place++;
            }
            began = place;
            return place < length ? bytes[place] : NONE;
        }

        void pass() {
            if (place < length) {
                place++;
            }
        }

        boolean takeByte(int wanted) {
            if (lookBehindBlanks() != wanted) {
                return false;
            }
            pass();
            return true;
        }

        void blameHere() {
            blame(place, WRONG_BYTE);
        }

        /** Whether another CLAUSE follows; anything but a semicolon or the end is a FAULT. */
        boolean takeSemicolon() {
            if (isFaulty()) {
                return false;
            }
            if (takeByte(';')) {
                return true;
            }
            if (look() != NONE) {
                blameHere();
            }
            return false;
        }

        static boolean isDigit(int b) {
            return b >= '0' && b <= '9';
        }

        private int endOfWord() {
            int at = place;
            while (at < length && bytes[at] >= 'a' && bytes[at] <= 'z') {
                at++;
            }
            return at;
        }

        boolean takeWord(String word) {
            lookBehindBlanks();
            int end = endOfWord();
            if (end - place != word.length()) {
                return false;
            }
            for (int i = 0; i < word.length(); i++) {
                if (bytes[place + i] != word.charAt(i)) {
                    return false;
                }
            }
            place = end;
            return true;
        }

        /** Which word of a list, each with a blank behind it, stands here; NONE, and a FAULT, if none does. */
        int readWord(String list) {
            lookBehindBlanks();
            int end = endOfWord();
            int number = 0;
            int at = place;
            boolean alike = true;
            for (int i = 0; i < list.length(); i++) {
                char c = list.charAt(i);
                if (c != ' ') {
                    alike = alike && at < end && bytes[at] == c;
                    at++;
                } else if (alike && at == end) {
                    place = end;
                    return number;
                } else {
                    number++;
                    at = place;
                    alike = true;
                }
            }
            blame(began, WRONG_BYTE);
            return NONE;
        }

        /** A NUMBER from least to most; NONE, and a FAULT, if there is none. */
        int readNumber(int least, int most) {
            if (isFaulty()) {
                return NONE;
            }
            if (!isDigit(lookBehindBlanks())) {
                blame(began, WRONG_BYTE);
                return NONE;
            }
            int value = 0;
            while (place < length && isDigit(bytes[place])) {
                if (place - began < MOST_DIGITS) {
                    value = value * 10 + bytes[place] - '0';
                }
                place++;
            }
            if (place - began > MOST_DIGITS || value < least || value > most) {
                blame(began, WRONG_NUMBER);
                return NONE;
            }
            return value;
        }
    }

    /** The TOWN. One more street than may be told has room, for the one that could be built. */
    static final class Town {
        private static final String WORDS = "corners street saint lift ";
        private static final String SIGNS = ".><=";
        private static final int CORNERS = 0;
        private static final int STREET = 1;
        private static final int SAINT = 2;
        private static final int MOST_CLAUSES = 32;
        private static final int ROOM = MOST_STREETS + 1;
        private static final int ALL_HOURS = (1 << DAY_HOURS) - 1;

        final int[] ends = new int[2 * ROOM];
        final int[] hours = new int[ROOM];
        private final int[] signs = new int[WEEK * ROOM];
        private final int[] lifted = new int[ROOM];
        private final int[] openDays = new int[2 * ROOM];
        private final int[] saintCorner = new int[MOST_SAINTS];
        private final int[] saintDate = new int[MOST_SAINTS];
        private final int[] saintsOf = new int[ROOM];
        int corners;
        int streets;
        int saints;
        int lifts;

        void copyFrom(Town other) {
            System.arraycopy(other.ends, 0, ends, 0, ends.length);
            System.arraycopy(other.hours, 0, hours, 0, hours.length);
            System.arraycopy(other.signs, 0, signs, 0, signs.length);
            System.arraycopy(other.lifted, 0, lifted, 0, lifted.length);
            System.arraycopy(other.openDays, 0, openDays, 0, openDays.length);
            System.arraycopy(other.saintCorner, 0, saintCorner, 0, saintCorner.length);
            System.arraycopy(other.saintDate, 0, saintDate, 0, saintDate.length);
            System.arraycopy(other.saintsOf, 0, saintsOf, 0, saintsOf.length);
            corners = other.corners;
            streets = other.streets;
            saints = other.saints;
            lifts = other.lifts;
        }

        void readFrom(Tape tape) {
            corners = 0;
            streets = 0;
            saints = 0;
            lifts = 0;
            tape.startReading();
            boolean more = true;
            for (int clause = 0; more && clause <= MOST_CLAUSES; clause++) {
                int kind = tape.readWord(WORDS);
                if (kind != NONE && isTooMany(kind, clause)) {
                    tape.blame(tape.began, TOO_MANY_CLAUSES);
                }
                readClause(tape, kind);
                more = tape.takeSemicolon();
            }
            for (int i = 0; i < streets; i++) {
                findSaints(i);
            }
        }

        private boolean isTooMany(int kind, int clause) {
            if (clause >= MOST_CLAUSES || (kind == CORNERS) != (clause == 0)) {
                return true;
            }
            switch (kind) {
                case CORNERS:
                    return false;
                case STREET:
                    return streets >= MOST_STREETS;
                case SAINT:
                    return saints >= MOST_SAINTS;
                default:
                    return lifts >= MOST_LIFTS;
            }
        }

        private void readClause(Tape tape, int kind) {
            if (tape.isFaulty()) {
                return;
            }
            if (kind == CORNERS) {
                corners = tape.readNumber(2, MOST_CORNERS);
            } else if (kind == STREET) {
                readStreet(tape);
            } else if (kind == SAINT) {
                readSaint(tape);
            } else {
                readLift(tape);
            }
        }

        private void readStreet(Tape tape) {
            int from = tape.readNumber(0, corners - 1);
            int to = tape.readNumber(0, corners - 1);
            if (to == from) {
                tape.blame(tape.began, WRONG_NUMBER);
            }
            int length = tape.readNumber(1, 9);
            if (tape.isFaulty()) {
                return;
            }
            placeStreet(streets, from, to, length);
            readSigns(tape);
            streets++;
        }

        private void placeStreet(int street, int from, int to, int length) {
            ends[2 * street] = from;
            ends[2 * street + 1] = to;
            hours[street] = length;
            lifted[street] = 0;
            openDays[2 * street] = 0;
            openDays[2 * street + 1] = 0;
        }

        private void readSigns(Tape tape) {
            tape.lookBehindBlanks();
            for (int day = 0; day < WEEK; day++) {
                int b = tape.look();
                int sign = b == NONE ? NONE : SIGNS.indexOf((char) b);
                if (sign < 0) {
                    tape.blameHere();
                    return;
                }
                tape.pass();
                placeSign(streets, day, sign);
            }
        }

        private void placeSign(int street, int day, int sign) {
            signs[WEEK * street + day] = sign;
            openDays[2 * street] |= (sign & 1) << day;
            openDays[2 * street + 1] |= (sign >> 1) << day;
        }

        private void readSaint(Tape tape) {
            int corner = tape.readNumber(0, corners - 1);
            int date = tape.readNumber(0, YEAR - 1);
            if (tape.isFaulty()) {
                return;
            }
            saintCorner[saints] = corner;
            saintDate[saints] = date;
            saints++;
        }

        private void readLift(Tape tape) {
            int street = tape.readNumber(0, streets - 1);
            int from = tape.readNumber(0, DAY_HOURS - 1);
            int to = tape.readNumber(from + 1, DAY_HOURS);
            if (tape.isFaulty()) {
                return;
            }
            lifted[street] |= (1 << to) - (1 << from);
            lifts++;
        }

        /** A street that is not told, behind those that are: open both ways on all days. */
        void tryStreet(int from, int to, int length) {
            placeStreet(streets, from, to, length);
            for (int day = 0; day < WEEK; day++) {
                placeSign(streets, day, BOTH_WAYS);
            }
            findSaints(streets);
        }

        boolean hasStreet(int street) {
            return street >= 0 && street < streets;
        }

        int signOn(int street, int day) {
            return signs[WEEK * street + day];
        }

        /** 0 at a street's first CORNER, 1 at its second one, NONE at others. */
        int sideOf(int street, int corner) {
            if (ends[2 * street] == corner) {
                return 0;
            }
            return ends[2 * street + 1] == corner ? 1 : NONE;
        }

        int cornerAcross(int street, int side) {
            return ends[2 * street + 1 - side];
        }

        /** Which SAINTS close a street, as bits. */
        private void findSaints(int street) {
            saintsOf[street] = 0;
            for (int i = 0; i < saints; i++) {
                if (sideOf(street, saintCorner[i]) != NONE) {
                    saintsOf[street] |= 1 << i;
                }
            }
        }

        /** The hours of a day, as bits, at which a street is open from a side. */
        private int openHours(int street, int side, long day, boolean heedSaints) {
            if (((openDays[2 * street + side] >> (int) (day % WEEK)) & 1) == 0) {
                return 0;
            }
            int bits = heedSaints ? saintsOf[street] : 0;
            for (int i = 0; bits != 0 && i < MOST_SAINTS; i++) {
                if ((bits & 1) != 0 && saintDate[i] == (int) (day % YEAR)) {
                    return 0;
                }
                bits >>= 1;
            }
            return ALL_HOURS & ~lifted[street];
        }

        boolean isOpen(int street, int side, long hour, boolean heedSaints) {
            int bits = openHours(street, side, hour / DAY_HOURS, heedSaints);
            return ((bits >> (int) (hour % DAY_HOURS)) & 1) != 0;
        }

        private boolean isNeverOpen(int street, int side) {
            return openDays[2 * street + side] == 0 || lifted[street] == ALL_HOURS;
        }

        /** The first hour from first to last at which a street is open from a side, or NONE. */
        int firstOpen(int street, int side, int first, int last) {
            if (isNeverOpen(street, side)) {
                return NONE;
            }
            int early = -1 << (first % DAY_HOURS);
            for (int day = first / DAY_HOURS; day * DAY_HOURS <= last; day++) {
                int bits = openHours(street, side, day, true) & early;
                early = -1;
                for (int hour = 0; bits != 0 && hour < DAY_HOURS; hour++) {
                    if (((bits >> hour) & 1) != 0) {
                        int found = day * DAY_HOURS + hour;
                        return found <= last ? found : NONE;
                    }
                }
            }
            return NONE;
        }

        /** The last hour from first to last at which a street is open from a side, or NONE. */
        int lastOpen(int street, int side, int first, int last) {
            if (last < first || isNeverOpen(street, side)) {
                return NONE;
            }
            int late = (2 << (last % DAY_HOURS)) - 1;
            for (int day = last / DAY_HOURS; day >= first / DAY_HOURS; day--) {
                int bits = openHours(street, side, day, true) & late;
                late = -1;
                for (int hour = DAY_HOURS - 1; bits != 0 && hour >= 0; hour--) {
                    if (((bits >> hour) & 1) != 0) {
                        int found = day * DAY_HOURS + hour;
                        return found >= first ? found : NONE;
                    }
                }
            }
            return NONE;
        }

        private int daysWith(int street, int sign) {
            int days = 0;
            for (int day = 0; day < WEEK; day++) {
                if (signOn(street, day) == sign) {
                    days++;
                }
            }
            return days;
        }

        int commonSign(int street) {
            int best = 0;
            for (int sign = 1; sign <= BOTH_WAYS; sign++) {
                if (daysWith(street, sign) > daysWith(street, best)) {
                    best = sign;
                }
            }
            return best;
        }

        /** On how many days the common sign is wrong: of a weekday 0 or 1, of WEEK all seven together. */
        int commonSignWrong(int street, int day) {
            int sign = commonSign(street);
            if (day == WEEK) {
                return WEEK - daysWith(street, sign);
            }
            return signOn(street, day) == sign ? 0 : 1;
        }
    }

    /** A RULE: CLAUSES, each with a deed and the code of its TEST, in which signs stand behind what they join. */
    static final class Rule {
        private static final int MOST_CLAUSES = 12;

        private final int[] deeds = new int[MOST_CLAUSES];
        private final int[] starts = new int[MOST_CLAUSES + 1];
        private final int[] code = new int[MOST_BYTES];
        private int length;
        int clauses;
        boolean hasAside;

        void clear() {
            clauses = 0;
            length = 0;
            hasAside = false;
        }

        boolean isFull() {
            return clauses >= MOST_CLAUSES;
        }

        void addClause(int deed) {
            if (!isFull()) {
                deeds[clauses] = deed;
                hasAside = hasAside || deed == ASIDE;
                clauses++;
                starts[clauses] = length;
            }
        }

        /** Each token comes of at least one byte of the TAPE, so the code has room for all. */
        void addToken(int token) {
            if (length < MOST_BYTES) {
                code[length] = token;
                length++;
                starts[clauses] = length;
            }
        }

        int deedOf(int clause) {
            return deeds[clause];
        }

        int firstToken(int clause) {
            return starts[clause];
        }

        int tokenAt(int at) {
            return code[at];
        }
    }

    /** Reads a RULE off the TAPE. */
    static final class RuleReader {
        private static final String DEEDS = "go aside ask wait ";
        private static final int MOST_ITEMS = 60;
        private static final int MOST_DEPTH = 10;
        private static final int LAST_VALUE = 99999;

        private final Tape tape;
        private Rule rule;
        private int items;

        RuleReader(Tape tape) {
            this.tape = tape;
        }

        void readInto(Rule empty) {
            rule = empty;
            rule.clear();
            items = 0;
            tape.startReading();
            boolean more = true;
            for (int clause = 0; more && clause <= Rule.MOST_CLAUSES; clause++) {
                int deed = tape.readWord(DEEDS);
                if (rule.isFull()) {
                    tape.blame(tape.began, TOO_MANY_CLAUSES);
                }
                rule.addClause(deed);
                if (!tape.isFaulty() && tape.takeWord("if")) {
                    readTest(0);
                }
                more = tape.takeSemicolon();
            }
        }

        /** An or waits until its second PART is whole; and joins at once. */
        private void readTest(int depth) {
            readFact(depth);
            int waiting = NONE;
            for (int i = 0; i < MOST_BYTES && !tape.isFaulty(); i++) {
                if (tape.takeWord("and")) {
                    readFact(depth);
                    rule.addToken(AND);
                } else if (tape.takeWord("or")) {
                    addWaiting(waiting);
                    waiting = OR;
                    readFact(depth);
                } else {
                    break;
                }
            }
            addWaiting(waiting);
        }

        private void readFact(int depth) {
            if (tape.isFaulty()) {
                return;
            }
            boolean isNot = tape.takeWord("not");
            boolean isBracket = !isNot && tape.takeByte('[');
            if (!isNot && !isBracket) {
                readSum();
                int sign = readSign();
                readSum();
                rule.addToken(sign);
            } else if (depth >= MOST_DEPTH) {
                tape.blame(tape.began, TOO_DEEP);
            } else if (isNot) {
                readFact(depth + 1);
                rule.addToken(NOT);
            } else {
                readTest(depth + 1);
                if (!tape.isFaulty() && !tape.takeByte(']')) {
                    tape.blameHere();
                }
            }
        }

        private int readSign() {
            if (tape.isFaulty()) {
                return SAME;
            }
            int b = tape.lookBehindBlanks();
            if (b != '<' && b != '=' && b != '>') {
                tape.blameHere();
                return SAME;
            }
            countItem();
            tape.pass();
            if (b == '=') {
                return SAME;
            }
            boolean orSame = tape.look() == '=';
            if (orSame) {
                tape.pass();
            }
            if (b == '<') {
                return orSame ? LESS_OR_SAME : LESS;
            }
            return orSame ? MORE_OR_SAME : MORE;
        }

        private void countItem() {
            items++;
            if (items > MOST_ITEMS) {
                tape.blame(tape.began, TOO_MANY_VALUES);
            }
        }

        /** A + or - waits until its second TERM is whole; * and / join at once. */
        private void readSum() {
            readValue();
            int waiting = NONE;
            for (int i = 0; i < MOST_BYTES && !tape.isFaulty(); i++) {
                int operator = takeOperator();
                if (operator == NONE) {
                    break;
                }
                if (operator == MULTIPLY || operator == DIVIDE) {
                    readValue();
                    rule.addToken(operator);
                } else {
                    addWaiting(waiting);
                    waiting = operator;
                    readValue();
                }
            }
            addWaiting(waiting);
        }

        private void addWaiting(int operator) {
            if (operator != NONE) {
                rule.addToken(operator);
            }
        }

        private int takeOperator() {
            switch (tape.lookBehindBlanks()) {
                case '+':
                    tape.pass();
                    return ADD;
                case '-':
                    tape.pass();
                    return SUBTRACT;
                case '*':
                    tape.pass();
                    return MULTIPLY;
                case '/':
                    tape.pass();
                    return DIVIDE;
                default:
                    return NONE;
            }
        }

        private void readValue() {
            if (tape.isFaulty()) {
                return;
            }
            if (Tape.isDigit(tape.lookBehindBlanks())) {
                rule.addToken(FIRST_NUMBER + tape.readNumber(0, LAST_VALUE));
            } else {
                rule.addToken(tape.readWord(VALUE_WORDS));
            }
            countItem();
        }
    }

    /** A WALKER. */
    static final class Walker {
        int corner;
        int goal;
        int map;
        int rule;
        long hour;
        int steps;
        int asked;
        int cameFrom;
        long askedDay;

        void setOut(int atCorner, int toGoal, int byMap, int byRule, long atHour) {
            corner = atCorner;
            goal = toGoal;
            map = byMap;
            rule = byRule;
            hour = atHour;
            steps = 0;
            asked = 0;
            cameFrom = NONE;
            askedDay = NONE;
        }

        void copyFrom(Walker other) {
            setOut(other.corner, other.goal, other.map, other.rule, other.hour);
            steps = other.steps;
            asked = other.asked;
            cameFrom = other.cameFrom;
            askedDay = other.askedDay;
        }

        boolean isAtGoal() {
            return corner == goal;
        }

        long dayNow() {
            return hour / DAY_HOURS;
        }

        boolean askedToday() {
            return askedDay == dayNow();
        }

        int tell(int what) {
            switch (what) {
                case 0:
                    return corner;
                case 1:
                    return goal;
                case 2:
                    return map;
                case 3:
                    return rule;
                case 4:
                    return (int) hour;
                case 5:
                    return steps;
                case 6:
                    return asked;
                default:
                    return cameFrom;
            }
        }
    }

    /** All that an IMAGE keeps. */
    static final class State {
        final Town town = new Town();
        final int[] mapSigns = new int[MOST_MAPS * MOST_STREETS];
        final Walker[] walkers = new Walker[MOST_WALKERS];
        final int[] errandFrom = new int[MOST_ERRANDS];
        final int[] errandTo = new int[MOST_ERRANDS];
        final int[] sightStreet = new int[MOST_SIGHTS];
        final int[] sightSign = new int[MOST_SIGHTS];
        final int[] arrival = new int[MOST_CAME];
        int maps;
        int walkerCount;
        int errands;
        int sights;
        int arrivals;
        int x;

        State() {
            for (int i = 0; i < MOST_WALKERS; i++) {
                walkers[i] = new Walker();
            }
        }

        boolean hasTown() {
            return town.corners > 0;
        }

        void moveTo(Town other) {
            town.copyFrom(other);
            maps = 0;
            walkerCount = 0;
            errands = 0;
            sights = 0;
            arrivals = 0;
        }

        void copyFrom(State other) {
            moveTo(other.town);
            System.arraycopy(other.mapSigns, 0, mapSigns, 0, mapSigns.length);
            for (int i = 0; i < MOST_WALKERS; i++) {
                walkers[i].copyFrom(other.walkers[i]);
            }
            System.arraycopy(other.errandFrom, 0, errandFrom, 0, MOST_ERRANDS);
            System.arraycopy(other.errandTo, 0, errandTo, 0, MOST_ERRANDS);
            System.arraycopy(other.sightStreet, 0, sightStreet, 0, MOST_SIGHTS);
            System.arraycopy(other.sightSign, 0, sightSign, 0, MOST_SIGHTS);
            System.arraycopy(other.arrival, 0, arrival, 0, MOST_CAME);
            maps = other.maps;
            walkerCount = other.walkerCount;
            errands = other.errands;
            sights = other.sights;
            arrivals = other.arrivals;
            x = other.x;
        }

        int fittingDays() {
            int days = 0;
            for (int day = 0; day < WEEK; day++) {
                if (fitsSights(day)) {
                    days |= 1 << day;
                }
            }
            return days;
        }

        private boolean fitsSights(int day) {
            for (int i = 0; i < sights; i++) {
                if (town.signOn(sightStreet[i], day) != sightSign[i]) {
                    return false;
                }
            }
            return true;
        }

        int streetToLookAt(int days) {
            int best = REFUSED;
            int fewest = WEEK + 1;
            for (int i = 0; i < town.streets; i++) {
                int most = mostAlike(i, days);
                if (most < fewest) {
                    fewest = most;
                    best = i;
                }
            }
            return best;
        }

        private int mostAlike(int street, int days) {
            int most = 0;
            for (int sign = 0; sign <= BOTH_WAYS; sign++) {
                int alike = 0;
                for (int day = 0; day < WEEK; day++) {
                    if (((days >> day) & 1) != 0 && town.signOn(street, day) == sign) {
                        alike++;
                    }
                }
                most = Math.max(most, alike);
            }
            return most;
        }
    }

    /** Hours and streets by a chart: 0 to 3 are the MAPS, behind them the weekdays as they are. */
    static final class Atlas {
        private static final int CHARTS = MOST_MAPS + WEEK;
        private static final int PAIRS = MOST_CORNERS * MOST_CORNERS;
        private static final int FAR = 1000000;

        private final State state;
        private final int[] hours = new int[CHARTS * PAIRS];
        private final int[] first = new int[CHARTS * PAIRS];
        private final boolean[] drawn = new boolean[CHARTS];

        Atlas(State state) {
            this.state = state;
        }

        static int ofWeekday(long day) {
            return MOST_MAPS + (int) (day % WEEK);
        }

        void forget(int chart) {
            drawn[chart] = false;
        }

        void forgetAll() {
            for (int i = 0; i < CHARTS; i++) {
                drawn[i] = false;
            }
        }

        void refreshAll() {
            for (int i = 0; i < CHARTS; i++) {
                if (i < state.maps || i >= MOST_MAPS) {
                    refresh(i);
                }
            }
        }

        void refresh(int chart) {
            if (!drawn[chart]) {
                drawStreets(chart);
                drawHours(chart);
                drawFirst(chart);
                drawn[chart] = true;
            }
        }

        /** HOURS by a chart, NONE if there is no way. */
        int hoursBy(int chart, int from, int to) {
            int answer = hours[spot(chart, from, to)];
            return answer >= FAR ? NONE : answer;
        }

        /** The STREET by a chart, NONE if there is no way or none is needed. */
        int streetBy(int chart, int from, int to) {
            return first[spot(chart, from, to)];
        }

        private static int spot(int chart, int from, int to) {
            return chart * PAIRS + from * MOST_CORNERS + to;
        }

        private int signOf(int chart, int street) {
            if (chart < MOST_MAPS) {
                return state.mapSigns[chart * MOST_STREETS + street];
            }
            return state.town.signOn(street, chart - MOST_MAPS);
        }

        private void drawStreets(int chart) {
            for (int from = 0; from < MOST_CORNERS; from++) {
                for (int to = 0; to < MOST_CORNERS; to++) {
                    hours[spot(chart, from, to)] = from == to ? 0 : FAR;
                    first[spot(chart, from, to)] = NONE;
                }
            }
            Town town = state.town;
            for (int i = 0; i < town.streets; i++) {
                int sign = signOf(chart, i);
                for (int side = 0; side < 2; side++) {
                    int at = spot(chart, town.cornerAcross(i, 1 - side), town.cornerAcross(i, side));
                    if (((sign >> side) & 1) != 0 && town.hours[i] < hours[at]) {
                        hours[at] = town.hours[i];
                    }
                }
            }
        }

        private void drawHours(int chart) {
            int corners = state.town.corners;
            for (int mid = 0; mid < corners; mid++) {
                for (int from = 0; from < corners; from++) {
                    int head = hours[spot(chart, from, mid)];
                    for (int to = 0; head < FAR && to < corners; to++) {
                        int sum = head + hours[spot(chart, mid, to)];
                        int at = spot(chart, from, to);
                        if (sum < hours[at]) {
                            hours[at] = sum;
                        }
                    }
                }
            }
        }

        /** From the last street to the first, so that the least of those that serve stays. */
        private void drawFirst(int chart) {
            Town town = state.town;
            for (int i = town.streets - 1; i >= 0; i--) {
                int sign = signOf(chart, i);
                for (int side = 0; side < 2; side++) {
                    if (((sign >> side) & 1) != 0) {
                        drawFirstBy(chart, i, side);
                    }
                }
            }
        }

        private void drawFirstBy(int chart, int street, int side) {
            Town town = state.town;
            int from = town.cornerAcross(street, 1 - side);
            int next = town.cornerAcross(street, side);
            for (int to = 0; to < town.corners; to++) {
                int rest = hours[spot(chart, next, to)];
                int at = spot(chart, from, to);
                if (rest < FAR && town.hours[street] + rest == hours[at]) {
                    first[at] = street;
                }
            }
        }
    }

    /** How a WALKER does a STEP. */
    static final class Legs {
        private static final int MOST_STACK = 64;
        private static final int NO_CORNER = 99;

        private final State state;
        private final Atlas atlas;
        private final Rule[] rules;
        private final long[] stack = new long[MOST_STACK];
        private int top;
        // What the walker sees before his STEP, so that each WORD need not look again.
        private int ahead;
        private boolean aheadOpen;
        private int aside;
        private int left;
        /** As ROUND has it: no SAINTS, no asking, the MAP as it is. */
        boolean circling;

        Legs(State state, Atlas atlas, Rule[] rules) {
            this.state = state;
            this.atlas = atlas;
            this.rules = rules;
        }

        /** How many STEPS he did of these. */
        int takeSteps(Walker w, int n) {
            for (int i = 0; i < n; i++) {
                if (takeStep(w) == NOTHING) {
                    return i;
                }
            }
            return n;
        }

        /** What he did. */
        int takeStep(Walker w) {
            if (w.isAtGoal()) {
                return NOTHING;
            }
            Rule rule = w.rule >= 0 && w.rule < rules.length ? rules[w.rule] : null;
            lookAround(w, rule != null && rule.hasAside);
            int deed = rule != null ? chooseDeed(w, rule) : aheadOpen ? GO : WAIT;
            if (deed == GO) {
                follow(w, ahead);
            } else if (deed == ASIDE) {
                follow(w, aside);
            } else {
                if (deed == ASK) {
                    w.askedDay = w.dayNow();
                    w.asked++;
                }
                w.hour++;
            }
            w.steps++;
            return deed;
        }

        private void lookAround(Walker w, boolean asideToo) {
            int chart = w.askedToday() && !circling ? Atlas.ofWeekday(w.dayNow()) : w.map;
            ahead = atlas.streetBy(chart, w.corner, w.goal);
            aheadOpen = ahead != NONE && isOpenFor(w, ahead);
            left = Math.max(0, atlas.hoursBy(chart, w.corner, w.goal));
            aside = NONE;
            for (int i = 0; asideToo && aside == NONE && i < state.town.streets; i++) {
                if (isOpenFor(w, i)) {
                    aside = i;
                }
            }
        }

        private boolean isOpenFor(Walker w, int street) {
            int side = state.town.sideOf(street, w.corner);
            return side != NONE && state.town.isOpen(street, side, w.hour, !circling);
        }

        private void follow(Walker w, int street) {
            if (street == NONE) {
                return;
            }
            int side = state.town.sideOf(street, w.corner);
            if (side == NONE) {
                return;
            }
            w.cameFrom = w.corner;
            w.corner = state.town.cornerAcross(street, side);
            w.hour += state.town.hours[street];
        }

        private int chooseDeed(Walker w, Rule rule) {
            for (int i = 0; i < rule.clauses; i++) {
                int deed = rule.deedOf(i);
                if (mayDo(w, deed) && holds(w, rule, i)) {
                    return deed;
                }
            }
            return WAIT;
        }

        private boolean mayDo(Walker w, int deed) {
            switch (deed) {
                case GO:
                    return aheadOpen;
                case ASIDE:
                    return aside != NONE;
                case ASK:
                    return !circling && !w.askedToday();
                default:
                    return true;
            }
        }

        /** A CLAUSE without a TEST has no code, and leaves nothing on the stack. */
        private boolean holds(Walker w, Rule rule, int clause) {
            top = 0;
            for (int at = rule.firstToken(clause); at < rule.firstToken(clause + 1); at++) {
                int token = rule.tokenAt(at);
                if (token >= FIRST_NUMBER) {
                    push(token - FIRST_NUMBER);
                } else if (token < FIRST_OPERATOR) {
                    push(valueOf(w, token));
                } else if (token == NOT) {
                    turn();
                } else {
                    join(token);
                }
            }
            return top < 1 || stack[top - 1] != 0;
        }

        private void push(long value) {
            if (top < MOST_STACK) {
                stack[top] = value;
                top++;
            }
        }

        private void turn() {
            if (top > 0) {
                stack[top - 1] = 1 - stack[top - 1];
            }
        }

        private void join(int operator) {
            if (top > 1) {
                top--;
                stack[top - 1] = joined(operator, stack[top - 1], stack[top]);
            }
        }

        private static long joined(int operator, long a, long b) {
            switch (operator) {
                case ADD:
                    return a + b;
                case SUBTRACT:
                    return a - b;
                case MULTIPLY:
                    return a * b;
                case DIVIDE:
                    return b == 0 ? 0 : a / b;
                case LESS:
                    return a < b ? 1 : 0;
                case LESS_OR_SAME:
                    return a <= b ? 1 : 0;
                case SAME:
                    return a == b ? 1 : 0;
                case MORE_OR_SAME:
                    return a >= b ? 1 : 0;
                case MORE:
                    return a > b ? 1 : 0;
                case AND:
                    return a & b;
                default:
                    return a | b;
            }
        }

        private long valueOf(Walker w, int word) {
            switch (word) {
                case 0:
                    return w.hour % DAY_HOURS;
                case 1:
                    return w.dayNow() % WEEK;
                case 2:
                    return circling ? 0 : w.dayNow() % YEAR;
                case 3:
                    return w.corner;
                case 4:
                    return w.goal;
                case 5:
                    return aheadOpen ? 0 : 1;
                case 6:
                    return left;
                case 7:
                    return circling ? 0 : w.steps;
                case 8:
                    return w.asked;
                default:
                    return w.cameFrom == NONE ? NO_CORNER : w.cameFrom;
            }
        }
    }

    /** What is asked of WALKERS; a ghost walks, so that nothing changes. */
    static final class Trials {
        static final int LONGEST_ASKING = 120;
        private static final int LONGEST_CIRCLE = 300;
        private static final int LONGEST_TRAIL = 100;
        private static final int NEVER = 1000000;
        private static final int KINDS = 2 * MOST_CORNERS;

        private final State state;
        private final Atlas atlas;
        private final Legs legs;
        private final Walker ghost = new Walker();
        private final int[] seen = new int[LONGEST_CIRCLE + 1];
        // The fewest questions by hours gone, CORNER, and whether he asked on that day.
        private final int[] fewest = new int[(LONGEST_ASKING + 1) * KINDS];
        private int limit;
        private int drawnX;

        Trials(State state, Atlas atlas, Legs legs) {
            this.state = state;
            this.atlas = atlas;
            this.legs = legs;
        }

        int tellComing(Walker w, int n, int what) {
            ghost.copyFrom(w);
            int done = legs.takeSteps(ghost, n);
            if (what == 0) {
                return ghost.isAtGoal() ? (int) ghost.hour : REFUSED;
            }
            return what == 1 ? done : ghost.asked - w.asked;
        }

        int tellCircle(Walker w, int what) {
            ghost.copyFrom(w);
            legs.circling = true;
            int answer = findCircle(what);
            legs.circling = false;
            return answer;
        }

        private int findCircle(int what) {
            seen[0] = ghostKey();
            for (int i = 1; i <= LONGEST_CIRCLE; i++) {
                legs.takeStep(ghost);
                if (ghost.isAtGoal()) {
                    return REFUSED;
                }
                seen[i] = ghostKey();
                for (int j = 0; j < i; j++) {
                    if (seen[j] == seen[i]) {
                        return what == 0 ? j : i - j;
                    }
                }
            }
            return REFUSED;
        }

        private int ghostKey() {
            int weekHour = (int) (ghost.hour % (WEEK * DAY_HOURS));
            return (weekHour * MOST_CORNERS + ghost.corner) * (MOST_CORNERS + 1) + ghost.cameFrom + 1;
        }

        int fewestQuestions(Walker w, int n) {
            limit = n;
            Arrays.fill(fewest, NEVER);
            fewest[2 * w.corner + (w.askedToday() ? 1 : 0)] = 0;
            int best = NEVER;
            for (int gone = 0; gone <= n; gone++) {
                for (int kind = 0; kind < 2 * state.town.corners; kind++) {
                    int sum = fewest[gone * KINDS + kind];
                    if (sum >= best) {
                        continue;
                    }
                    if (kind / 2 == w.goal) {
                        best = sum;
                    } else {
                        spread(w, gone, kind, sum);
                    }
                }
            }
            return best == NEVER ? REFUSED : best;
        }

        private void spread(Walker w, int gone, int kind, int sum) {
            int corner = kind / 2;
            int asked = kind % 2;
            long hour = w.hour + gone;
            note(hour, gone, 1, kind, sum);
            if (asked == 0) {
                note(hour, gone, 1, kind + 1, sum + 1);
            }
            int chart = asked == 1 ? Atlas.ofWeekday(hour / DAY_HOURS) : w.map;
            int street = atlas.streetBy(chart, corner, w.goal);
            if (street == NONE) {
                return;
            }
            int side = state.town.sideOf(street, corner);
            if (side != NONE && state.town.isOpen(street, side, hour, true)) {
                int next = 2 * state.town.cornerAcross(street, side) + asked;
                note(hour, gone, state.town.hours[street], next, sum);
            }
        }

        /** That he asked is forgotten with the day. */
        private void note(long hour, int gone, int length, int kind, int sum) {
            if (gone + length > limit) {
                return;
            }
            boolean sameDay = hour / DAY_HOURS == (hour + length) / DAY_HOURS;
            int at = (gone + length) * KINDS + (sameDay ? kind : kind - kind % 2);
            fewest[at] = Math.min(fewest[at], sum);
        }

        int fittingMaps(Walker w) {
            int bits = 0;
            for (int map = 0; map < state.maps; map++) {
                ghost.copyFrom(w);
                ghost.map = map;
                if (ghostComesAsTold()) {
                    bits |= 1 << map;
                }
            }
            return bits;
        }

        private boolean ghostComesAsTold() {
            int met = 0;
            for (int i = 0; i < LONGEST_TRAIL && met < state.arrivals; i++) {
                int deed = legs.takeStep(ghost);
                if (deed == NOTHING) {
                    return false;
                }
                if (deed == GO || deed == ASIDE) {
                    if (ghost.corner != state.arrival[met]) {
                        return false;
                    }
                    met++;
                }
            }
            return met == state.arrivals;
        }

        int tellStrangers(int rule, int m, int n, int what) {
            drawnX = state.x;
            int there = 0;
            long hours = 0;
            for (int i = 0; i < m; i++) {
                int corner = drawBelow(state.town.corners);
                int goal = drawBelow(state.town.corners);
                int map = drawBelow(state.maps);
                int hour = drawBelow(WEEK * DAY_HOURS);
                ghost.setOut(corner, goal, map, rule, hour);
                legs.takeSteps(ghost, n);
                if (ghost.isAtGoal()) {
                    there++;
                    hours += ghost.hour - hour;
                }
            }
            return what == 0 ? there : (int) hours;
        }

        private int drawBelow(int n) {
            drawnX = (int) ((drawnX * 1103515245L + 12345L) & 2147483647L);
            return n > 0 ? (drawnX >> 16) % n : 0;
        }
    }

    /** How soon one can really be somewhere. */
    static final class Search {
        private static final int UNDONE = HORIZON + 1;

        private final State state;
        private final Town town;
        private final int[] at = new int[MOST_CORNERS];
        private final boolean[] settled = new boolean[MOST_CORNERS];

        Search(State state) {
            this.state = state;
            this.town = state.town;
        }

        /** The first hour at which one can be there by the first so many streets, NONE beyond the horizon. */
        int firstArrival(int streets, int from, int to, int hour) {
            clear();
            at[from] = hour;
            for (int i = 0; i < town.corners; i++) {
                int corner = earliestUnsettled();
                if (corner == NONE) {
                    return NONE;
                }
                if (corner == to) {
                    return at[to];
                }
                settled[corner] = true;
                for (int j = 0; j < streets; j++) {
                    reachBy(j, corner, hour + HORIZON);
                }
            }
            return NONE;
        }

        private void clear() {
            for (int i = 0; i < MOST_CORNERS; i++) {
                at[i] = NONE;
                settled[i] = false;
            }
        }

        private int earliestUnsettled() {
            int best = NONE;
            for (int i = 0; i < town.corners; i++) {
                if (!settled[i] && at[i] != NONE && (best == NONE || at[i] < at[best])) {
                    best = i;
                }
            }
            return best;
        }

        private void reachBy(int street, int corner, int last) {
            int side = town.sideOf(street, corner);
            if (side == NONE || settled[town.cornerAcross(street, side)]) {
                return;
            }
            int next = town.cornerAcross(street, side);
            int length = town.hours[street];
            int begun = town.firstOpen(street, side, at[corner], last - length);
            if (begun != NONE && (at[next] == NONE || begun + length < at[next])) {
                at[next] = begun + length;
            }
        }

        int streetOnWay(int from, int to, int hour, int k) {
            int arrival = firstArrival(town.streets, from, to, hour);
            if (arrival == NONE) {
                return NONE;
            }
            findLatest(to, hour, arrival);
            int corner = from;
            int now = hour;
            for (int i = 0; i <= k && i <= HORIZON && corner != to; i++) {
                int street = leastStreet(corner, now);
                if (street == NONE || i == k) {
                    return street;
                }
                int side = town.sideOf(street, corner);
                now = town.firstOpen(street, side, now, arrival) + town.hours[street];
                corner = town.cornerAcross(street, side);
            }
            return NONE;
        }

        /** Of each corner the last hour from which one can still be there: who comes sooner can wait. */
        private void findLatest(int to, int hour, int arrival) {
            clear();
            at[to] = arrival;
            for (int i = 0; i < town.corners; i++) {
                int corner = latestUnsettled();
                if (corner == NONE) {
                    return;
                }
                settled[corner] = true;
                for (int j = 0; j < town.streets; j++) {
                    leaveBy(j, corner, hour);
                }
            }
        }

        private int latestUnsettled() {
            int best = NONE;
            for (int i = 0; i < town.corners; i++) {
                if (!settled[i] && at[i] != NONE && (best == NONE || at[i] > at[best])) {
                    best = i;
                }
            }
            return best;
        }

        private void leaveBy(int street, int corner, int hour) {
            int side = town.sideOf(street, corner);
            if (side == NONE) {
                return;
            }
            int before = town.cornerAcross(street, side);
            int last = at[corner] - town.hours[street];
            at[before] = Math.max(at[before], town.lastOpen(street, 1 - side, hour, last));
        }

        private int leastStreet(int corner, int now) {
            for (int i = 0; i < town.streets; i++) {
                int side = town.sideOf(i, corner);
                if (side != NONE) {
                    int last = at[town.cornerAcross(i, side)] - town.hours[i];
                    if (last >= now && town.firstOpen(i, side, now, last) != NONE) {
                        return i;
                    }
                }
            }
            return NONE;
        }

        int tellBest(int length, int hour, int what) {
            int bestFrom = 0;
            int bestTo = 1;
            int bestSum = (MOST_ERRANDS + 1) * UNDONE;
            for (int from = 0; from < town.corners; from++) {
                for (int to = from + 1; to < town.corners; to++) {
                    town.tryStreet(from, to, length);
                    int sum = sumOfErrands(hour, bestSum);
                    if (sum < bestSum) {
                        bestSum = sum;
                        bestFrom = from;
                        bestTo = to;
                    }
                }
            }
            if (what == 2) {
                return bestSum;
            }
            return what == 0 ? bestFrom : bestTo;
        }

        private int sumOfErrands(int hour, int enough) {
            int sum = 0;
            for (int i = 0; i < state.errands && sum < enough; i++) {
                int arrival = firstArrival(town.streets + 1, state.errandFrom[i], state.errandTo[i], hour);
                sum += arrival == NONE ? UNDONE : arrival - hour;
            }
            return sum;
        }
    }

    /** One way for each street of a weekday that is not shut, so that all ERRANDS can be done. */
    static final class Weave {
        private static final int ALL_CORNERS = (1 << MOST_CORNERS) - 1;

        private final State state;
        private final Town town;
        private final int[] roads = new int[MOST_STREETS];
        private final int[] next = new int[MOST_CORNERS];
        private int roadCount;

        Weave(State state) {
            this.state = state;
            this.town = state.town;
        }

        void takeDay(int day) {
            roadCount = 0;
            for (int i = 0; i < town.streets && roadCount < MOST_STREETS; i++) {
                if (town.signOn(i, day) != 0) {
                    roads[roadCount] = i;
                    roadCount++;
                }
            }
        }

        /**
         * The CLASH, 0 if there is none. By Robbins' theorem streets that lie on a ring can all be made one way
         * with none cut off, so two errands are only ever at odds over a street without which they are cut off.
         */
        int findClash() {
            layRoads(roadCount, 0, NONE);
            for (int i = 0; i < state.errands; i++) {
                if (!canDo(i)) {
                    return 1 << i;
                }
            }
            int best = 0;
            for (int i = 0; i < roadCount; i++) {
                int pair = oddsOver(i);
                if (pair != 0 && (best == 0 || pair < best)) {
                    best = pair;
                }
            }
            return best;
        }

        /** The least two errands that need a road in both ways, as bits, or 0. */
        private int oddsOver(int road) {
            layRoads(roadCount, 0, road);
            int near = cornersFrom(town.ends[2 * roads[road]]);
            int best = 0;
            for (int i = 0; i < state.errands; i++) {
                for (int j = i + 1; j < state.errands; j++) {
                    int pair = (1 << i) | (1 << j);
                    if (crossing(i, near) * crossing(j, near) < 0 && (best == 0 || pair < best)) {
                        best = pair;
                    }
                }
            }
            return best;
        }

        /** 1 if an errand leads out of these corners, -1 if into them, else 0. */
        private int crossing(int errand, int near) {
            return ((near >> state.errandFrom[errand]) & 1) - ((near >> state.errandTo[errand]) & 1);
        }

        /** The least bits by which all errands can be done; NONE if there is a CLASH. */
        int findLeast() {
            return leastBelow(roadCount, 0);
        }

        /** The roads from free on are laid by the bits; those below may still be both ways. */
        private int leastBelow(int free, int bits) {
            layRoads(free, bits, NONE);
            for (int i = 0; i < state.errands; i++) {
                if (!canDo(i)) {
                    return NONE;
                }
            }
            if (free <= 0) {
                return bits;
            }
            int answer = leastBelow(free - 1, bits);
            return answer != NONE ? answer : leastBelow(free - 1, bits | (1 << (free - 1)));
        }

        private void layRoads(int free, int bits, int without) {
            for (int i = 0; i < MOST_CORNERS; i++) {
                next[i] = 0;
            }
            for (int i = 0; i < roadCount; i++) {
                if (i == without) {
                    continue;
                }
                int a = town.ends[2 * roads[i]];
                int b = town.ends[2 * roads[i] + 1];
                int isBack = (bits >> i) & 1;
                if (i < free || isBack == 0) {
                    next[a] |= 1 << b;
                }
                if (i < free || isBack == 1) {
                    next[b] |= 1 << a;
                }
            }
        }

        private boolean canDo(int errand) {
            return ((cornersFrom(state.errandFrom[errand]) >> state.errandTo[errand]) & 1) != 0;
        }

        private int cornersFrom(int corner) {
            int reached = 1 << corner;
            int fresh = reached;
            for (int i = 0; i < MOST_CORNERS && fresh != 0; i++) {
                int found = 0;
                for (int j = 0; j < town.corners; j++) {
                    if (((fresh >> j) & 1) != 0) {
                        found |= next[j];
                    }
                }
                fresh = found & ~reached & ALL_CORNERS;
                reached |= found;
            }
            return reached;
        }
    }
}
