import java.util.Arrays;

/** Wet boots on places by a stove: see README.md, and the document for what each call promises. */
public final class BootsStove {
    public static final int NONE = -1, BAD = -2, STATE = -3, FULL = -4;
    public static final long NO = Long.MIN_VALUE;

    private static final int NOT_ANY = -5;
    private static final int NOTHING = -11, CAST = -12, PLACE = -13, SIZE = -14;
    private static final int FAULT_FROM = -10;

    private static final int PAIR = 0, LEATHER = 1, FELT = 2, STUFFED = 3, GUIDES = 4, SOCKS = 5, TOLD = 6;

    private static final int MOST_PAIRS = 6, PLACES = 6, LAST_KIND = 6;
    private static final int MOST_V = 9, MOST_WET = 99, MOST_HEAT = 30, MOST_WOOD = 9, MOST_TOLD = 9, PARTS = 4;
    private static final int MOST_HOURS = 60, MOST_NIGHT = 12, MOST_LOG_HOURS = 6, CHANGE_HOURS = 6, LAST_HOUR = 9999;
    private static final int MOST_HUTS = 6, MOST_TEXT = 100, MOST_CLAUSES = 10, MOST_NESTED = 4, LAST_SIGN = 127;
    private static final int MOST_SEEN = 5, MOST_SEEN_HOURS = 20, MOST_ROTA = 10, MOST_BOOK = 8, MOST_ODDS = 999;
    private static final int GOES_HOUR = 0, GOES_LOG = 1, GOES_TAKEN = 2, GOES_BACK = 3;
    private static final int TAPES = 6, MOST_ITEMS = 60, LAST_SORT = 4, EMPTY = -1;
    private static final int BYTES = 0, SHORTS = 1, INTS = 2, LONGS = 3;
    private static final int MOST_TRACE = 20, ENDED_EARLY = 100;

    private final Room room;
    private final Rows seen = new Rows(MOST_SEEN);
    private final Rows rota = new Rows(MOST_ROTA);
    private final Rows book = new Rows(MOST_BOOK);

    private boolean imageIsTaken;
    private final Room keptRoom;
    private final Rows keptSeen = new Rows(MOST_SEEN);
    private final Rows keptRota = new Rows(MOST_ROTA);
    private final Rows keptBook = new Rows(MOST_BOOK);

    private final HutReader text;
    private final Hut[] huts = new Hut[MOST_HUTS];
    private int hutCount;
    private final Tape[] tapes = new Tape[TAPES];
    private final Acts acts = new Acts();

    // What is asked is tried out on these, which are made once for all calls.
    private final Room trial;
    private final Course course;
    private final Placing placing = new Placing();

    public BootsStove() {
        Hut bare = new Hut();
        room = new Room(bare);
        keptRoom = new Room(bare);
        trial = new Room(bare);
        course = new Course(bare);
        text = new HutReader(bare);
        for (int i = 0; i < MOST_HUTS; i++) {
            huts[i] = new Hut();
        }
        for (int i = 0; i < TAPES; i++) {
            tapes[i] = new Tape();
        }
    }

    // ---- pairs, huts

    public int pair(int kind, int v, int wet) {
        if (outside(kind, LAST_KIND)) {
            return NONE;
        }
        if (outside(v, MOST_V) || outside(wet, MOST_WET)) {
            return BAD;
        }
        if (room.count >= MOST_PAIRS) {
            return FULL;
        }
        room.boots[room.count].become(kind, v, wet, room.freePlace());
        room.count++;
        return room.count - 1;
    }

    public int of(int pair, int what) {
        if (noPair(pair)) {
            return NONE;
        }
        Boots boots = room.boots[pair];
        if (what >= 10) {
            return outside(what - 10, PLACES - 1) ? NONE : boots.driesAt(what - 10, room.stove);
        }
        switch (what) {
            case 0: return boots.kind;
            case 1: return boots.v;
            case 2: return boots.wet;
            case 3: return boots.place;
            case 4: return boots.isTaken ? 1 : 0;
            case 5: return boots.cracks;
            case 6: return boots.spoils(room.stove) ? 1 : 0;
            default: return NONE;
        }
    }

    public int wet(int pair, int n) {
        if (noPair(pair)) {
            return NONE;
        }
        if (outside(n, MOST_WET)) {
            return BAD;
        }
        int was = room.boots[pair].wet;
        room.boots[pair].wet = n;
        return was;
    }

    public int put(int pair, int place) {
        if (noPair(pair) || outside(place, PLACES - 1)) {
            return NONE;
        }
        int was = room.boots[pair].place;
        int other = room.whoIsAt(place);
        if (other >= 0) {
            room.boots[other].place = was;
        }
        room.boots[pair].place = place;
        return was;
    }

    public int take(int pair, boolean is) {
        if (noPair(pair)) {
            return NONE;
        }
        boolean was = room.boots[pair].isTaken;
        room.boots[pair].isTaken = is;
        return was ? 1 : 0;
    }

    public int stoke() {
        if (room.stove.wood <= 0) {
            return STATE;
        }
        room.stove.burnLog();
        return room.stove.heat;
    }

    public int set(int what, int n) {
        if (outside(what, 1)) {
            return NONE;
        }
        if (outside(n, what == 0 ? MOST_HEAT : MOST_WOOD)) {
            return BAD;
        }
        Stove stove = room.stove;
        int was = what == 0 ? stove.heat : stove.wood;
        if (what == 0) {
            stove.heat = n;
        } else {
            stove.wood = n;
        }
        return was;
    }

    public int row(int pair, int part, int n) {
        if (noPair(pair) || outside(part, PARTS - 1)) {
            return NONE;
        }
        if (outside(n, MOST_TOLD)) {
            return BAD;
        }
        Boots boots = room.boots[pair];
        if (boots.kind != TOLD) {
            return STATE;
        }
        int was = boots.toldRow[part];
        boots.toldRow[part] = n;
        return was;
    }

    public int feed(int sign) {
        if (outside(sign, LAST_SIGN)) {
            return BAD;
        }
        if (text.length >= MOST_TEXT) {
            return FULL;
        }
        return text.append(sign);
    }

    public int hut() {
        if (hutCount >= MOST_HUTS) {
            return FULL;
        }
        Hut newest = huts[hutCount];
        int fault = text.faultReadingInto(newest);
        text.length = 0;
        if (fault >= 0) {
            return FAULT_FROM - fault;
        }
        room.stove.hut = newest;
        hutCount++;
        return hutCount - 1;
    }

    public int told(int what) {
        if (what >= 20) {
            return outside(what - 20, PLACES - 1) ? NONE : room.whoIsAt(what - 20);
        }
        if (what >= 10) {
            return outside(what - 10, PLACES - 1) ? NONE : room.stove.warmAt(what - 10);
        }
        switch (what) {
            case 0: return room.stove.hour;
            case 1: return room.stove.heat;
            case 2: return room.stove.wood;
            case 3: return room.stove.hut.cool;
            case 4: return room.stove.hut.log;
            case 5: return room.wetOfThoseHere();
            case 6: return room.cracksOfAll();
            case 7: return room.dryBits();
            default: return NONE;
        }
    }

    // ---- hours

    public int pass(int n) {
        if (outside(n, MOST_HOURS)) {
            return BAD;
        }
        if (room.stove.hour + n > LAST_HOUR) {
            return STATE;
        }
        room.letHoursGo(n);
        return room.stove.hour;
    }

    public int on(int n, int what) {
        boolean isOfAll = !outside(what, 2);
        if (!isOfAll && (what < 10 || noPair(what - 10))) {
            return NONE;
        }
        if (outside(n, MOST_HOURS)) {
            return BAD;
        }
        tryHours(n);
        switch (what) {
            case 0: return trial.wetOfThoseHere();
            case 1: return trial.stove.heat;
            case 2: return trial.cracksOfAll();
            default: return trial.boots[what - 10].wet;
        }
    }

    public int done(int pair) {
        if (noPair(pair)) {
            return NONE;
        }
        course.begin(room.boots[pair], room.stove);
        for (int hours = 0; hours <= MOST_HOURS; hours++) {
            if (course.boots.wet == 0) {
                return hours;
            }
            course.letHourGo();
        }
        return NOT_ANY;
    }

    public int night(int n) {
        if (outside(n, MOST_NIGHT)) {
            return BAD;
        }
        tryHours(n);
        return trial.dryOfThoseHere();
    }

    // ---- places, logs

    public int placed(int n, int what) {
        boolean isOfAll = !outside(what, 1);
        if (!isOfAll && (what < 10 || noPair(what - 10))) {
            return NONE;
        }
        if (n < 1 || n > MOST_NIGHT) {
            return BAD;
        }
        placing.foresee(room, course, n);
        placing.findBest();
        switch (what) {
            case 0: return placing.bestDry;
            case 1: return placing.bestWet;
            default: return placing.best[what - 10];
        }
    }

    public int change() {
        placing.foresee(room, course, CHANGE_HOURS);
        int best = 0;
        int answer = NOT_ANY;
        for (int lesser = 0; lesser < room.count; lesser++) {
            for (int greater = lesser + 1; greater < room.count; greater++) {
                int more = placing.moreByChange(room.boots[lesser], room.boots[greater]);
                if (more < best) {
                    best = more;
                    answer = 10 * lesser + greater;
                }
            }
        }
        return answer;
    }

    public int logs(int n, int what) {
        if (outside(what, 1)) {
            return NONE;
        }
        if (n < 1 || n > MOST_LOG_HOURS) {
            return BAD;
        }
        int best = 0;
        int bestWet = wetByLogs(n, 0);
        for (int bits = 1; bits < 1 << n; bits++) {
            int logs = Integer.bitCount(bits);
            if (logs <= room.stove.wood) {
                int wet = wetByLogs(n, bits);
                if (wet < bestWet || wet == bestWet && logs < Integer.bitCount(best)) {
                    best = bits;
                    bestWet = wet;
                }
            }
        }
        return what == 0 ? best : bestWet;
    }

    // ---- seen, odds

    public int see(int pair, int wet, int n) {
        if (pair == -1) {
            seen.count = 0;
            return 0;
        }
        if (noPair(pair)) {
            return NONE;
        }
        if (outside(wet, MOST_WET) || outside(n, MOST_SEEN_HOURS)) {
            return BAD;
        }
        if (seen.isFull()) {
            return FULL;
        }
        return seen.append(pair, wet, n);
    }

    public int wets(int pair, int what) {
        if (noPair(pair) || outside(what, 1)) {
            return NONE;
        }
        int many = 0;
        int least = NOT_ANY;
        for (int wet = MOST_WET; wet >= 0; wet--) {
            course.begin(room.boots[pair], room.stove);
            course.boots.wet = wet;
            if (courseIsAsSeen()) {
                many++;
                least = wet;
            }
        }
        return what == 0 ? many : least;
    }

    public int can(int pair, int what) {
        if (noPair(pair) || outside(what, 1)) {
            return NONE;
        }
        int many = 0;
        int least = NOT_ANY;
        for (int v = MOST_V; v >= 0; v--) {
            course.begin(room.boots[pair], room.stove);
            course.boots.v = v;
            if (courseIsAsSeen()) {
                many++;
                least = v;
            }
        }
        return what == 0 ? many : least;
    }

    public int where(int pair) {
        if (noPair(pair)) {
            return NONE;
        }
        int bits = 0;
        for (int place = 0; place < PLACES; place++) {
            if (allIsAsSeenWith(pair, place)) {
                bits |= 1 << place;
            }
        }
        return bits;
    }

    public long odds(int n, int q, int part) {
        if (outside(n, MOST_HOURS) || outside(q, MOST_ODDS) || outside(part, 1) || room.count <= 0) {
            return NO;
        }
        tryHours(n);
        int wetOfAll = trial.wetOfThoseHere();
        int likely = 0;
        for (int b = 0; b < trial.count; b++) {
            Boots boots = trial.boots[b];
            int wetOfOthers = boots.isTaken ? wetOfAll : wetOfAll - boots.wet;
            if (wetOfOthers <= q) {
                likely++;
            }
        }
        return partOfFraction(likely, room.count, part);
    }

    public long mean(int n, int part) {
        if (outside(n, MOST_HOURS) || outside(part, 1) || room.count <= 0) {
            return NO;
        }
        tryHours(n);
        int wet = 0;
        for (int b = 0; b < trial.count; b++) {
            wet += trial.boots[b].wet;
        }
        return partOfFraction(wet, room.count, part);
    }

    // ---- rotas, books

    public int rota(int what, int n) {
        if (what == -1) {
            rota.count = 0;
            return 0;
        }
        if (outside(what, GOES_BACK)) {
            return NONE;
        }
        boolean isOfPair = what == GOES_TAKEN || what == GOES_BACK;
        if (isOfPair && noPair(n)) {
            return NONE;
        }
        if (rota.isFull()) {
            return FULL;
        }
        return rota.append(what, isOfPair ? n : 0, 0);
    }

    public int ends(int what) {
        if (outside(what, 1)) {
            return NONE;
        }
        trial.copyFrom(room);
        for (int i = 0; i < rota.count; i++) {
            trial.follow(rota.first[i], rota.second[i]);
        }
        return what == 0 ? trial.wetOfThoseHere() : trial.cracksOfAll();
    }

    public int book(int pair, int wet) {
        if (pair == -1) {
            book.count = 0;
            return 0;
        }
        if (noPair(pair)) {
            return NONE;
        }
        if (outside(wet, MOST_WET)) {
            return BAD;
        }
        if (book.isFull()) {
            return FULL;
        }
        return book.append(pair, wet, 0);
    }

    public int looked() {
        for (int i = 0; i < book.count; i++) {
            int pair = book.first[i];
            if (!noPair(pair) && room.boots[pair].wet != book.second[i]) {
                return i;
            }
        }
        return NOT_ANY;
    }

    // ---- judging, the image, acts, tapes

    public int judge(int tape, int i) {
        if (outside(tape, TAPES - 1)) {
            return NONE;
        }
        Tape told = tapes[tape];
        if (told.sort != EMPTY && told.sort != BYTES) {
            return CAST;
        }
        for (int b = 0; b < room.count; b++) {
            // i + b could wrap, so b is held against what the row has behind i
            if (told.sort == EMPTY || i < 0 || b >= told.length - i) {
                return ENDED_EARLY + b;
            }
            if (told.items[i + b] != room.boots[b].wet) {
                return b;
            }
        }
        return NOT_ANY;
    }

    public int image() {
        imageIsTaken = true;
        keptRoom.copyFrom(room);
        keptSeen.copyFrom(seen);
        keptRota.copyFrom(rota);
        keptBook.copyFrom(book);
        return room.count;
    }

    public int undo() {
        if (!imageIsTaken) {
            return STATE;
        }
        room.copyFrom(keptRoom);
        seen.copyFrom(keptSeen);
        rota.copyFrom(keptRota);
        book.copyFrom(keptBook);
        return room.count;
    }

    public int act(int pair, int act, int x) {
        acts.forget();
        return noPair(pair) ? 0 : acts.run(room.boots[pair], act, x);
    }

    public int trace(int i) {
        return i < 0 || i >= acts.kept() ? NONE : acts.bodies[i];
    }

    public int taken(int pair, int k) {
        if (outside(k, LAST_KIND)) {
            return BAD;
        }
        if (noPair(pair)) {
            return NOTHING;
        }
        int kind = room.boots[pair].kind;
        return Kinds.isOrIsUnder(kind, k) ? kind : CAST;
    }

    public int count(int what) {
        switch (what) {
            case 0: return room.count;
            case 1: return hutCount;
            case 2: return seen.count;
            case 3: return rota.count;
            case 4: return book.count;
            case 5: return text.length;
            case 6: return acts.ran;
            default: return BAD;
        }
    }

    public int tape(int tape, int sort, int n) {
        if (outside(tape, TAPES - 1)) {
            return NONE;
        }
        if (sort == EMPTY) {
            tapes[tape].become(EMPTY, 0);
            return 1;
        }
        if (outside(sort, LAST_SORT) || n > MOST_ITEMS) {
            return BAD;
        }
        if (n < 0) {
            return SIZE;
        }
        tapes[tape].become(sort, n);
        return 1;
    }

    public int item(int tape, int i, long v) {
        if (outside(tape, TAPES - 1)) {
            return NONE;
        }
        Tape row = tapes[tape];
        if (row.sort == EMPTY) {
            return NOTHING;
        }
        if (i < 0 || i >= row.length) {
            return PLACE;
        }
        row.items[i] = row.narrowed(v);
        return 1;
    }

    public long read(int tape, int i) {
        if (outside(tape, TAPES - 1)) {
            return NO;
        }
        Tape row = tapes[tape];
        return i < 0 || i >= row.length ? NO : row.items[i];
    }

    public int shift(int tape, int i, int other, int j, int n) {
        if (outside(tape, TAPES - 1) || outside(other, TAPES - 1)) {
            return NONE;
        }
        Tape from = tapes[tape];
        Tape to = tapes[other];
        if (from.sort == EMPTY || to.sort == EMPTY) {
            return NOTHING;
        }
        if (from.sort != to.sort) {
            return CAST;
        }
        if (!from.holds(i, n) || !to.holds(j, n)) {
            return PLACE;
        }
        System.arraycopy(from.items, i, to.items, j, n);
        return n;
    }

    // ---- what the calls share

    private static boolean outside(int n, int most) {
        return n < 0 || n > most;
    }

    private boolean noPair(int pair) {
        return pair < 0 || pair >= room.count;
    }

    private void tryHours(int n) {
        trial.copyFrom(room);
        trial.letHoursGo(n);
    }

    private int wetByLogs(int n, int bits) {
        trial.copyFrom(room);
        for (int k = 0; k < n; k++) {
            if ((bits >> k & 1) != 0) {
                trial.stove.burnLog();
            }
            trial.letHourGo();
        }
        return trial.wetOfThoseHere();
    }

    /** Whether all of SEEN that is of the course's PAIR is so, by the course from where it stands. */
    private boolean courseIsAsSeen() {
        int pair = course.boots.number;
        int hours = seen.mostThirdOf(pair);
        for (int k = 0; k <= hours; k++) {
            for (int i = 0; i < seen.count; i++) {
                boolean isSeenNow = seen.first[i] == pair && seen.third[i] == k;
                if (isSeenNow && seen.second[i] != course.boots.wet) {
                    return false;
                }
            }
            course.letHourGo();
        }
        return true;
    }

    private boolean allIsAsSeenWith(int pair, int place) {
        int was = room.boots[pair].place;
        int other = room.whoIsAt(place);
        for (int i = 0; i < seen.count; i++) {
            if (noPair(seen.first[i])) {
                return false;
            }
            Boots boots = room.boots[seen.first[i]];
            int at = boots.place;
            if (boots.number == pair) {
                at = place;
            } else if (boots.number == other) {
                at = was;
            }
            if (course.wetBehind(seen.third[i], boots, at, room.stove) != seen.second[i]) {
                return false;
            }
        }
        return true;
    }

    private static long partOfFraction(int above, int below, int part) {
        int common = commonDivisor(above, below);
        if (common <= 0) {
            return NO;
        }
        return part == 0 ? above / common : below / common;
    }

    private static int commonDivisor(int a, int b) {
        int greater = b;
        int lesser = a;
        // 64 steps of Euclid are more than any two ints need
        for (int i = 0; i < 64 && lesser > 0; i++) {
            int rest = greater % lesser;
            greater = lesser;
            lesser = rest;
        }
        return greater;
    }

    /** Which KIND is under which. */
    private static final class Kinds {
        static int above(int kind) {
            switch (kind) {
                case GUIDES: return LEATHER;
                case SOCKS: return FELT;
                case TOLD: return STUFFED;
                default: return PAIR;
            }
        }

        static boolean isOrIsUnder(int kind, int other) {
            int k = kind;
            for (int i = 0; i < LAST_KIND && k != other; i++) {
                k = above(k);
            }
            return k == other;
        }
    }

    /** One PAIR. */
    private static final class Boots {
        int number;
        int kind;
        int v;
        int wet;
        int place;
        boolean isTaken;
        int cracks;
        final int[] toldRow = new int[PARTS];

        Boots(int number) {
            this.number = number;
        }

        void become(int kind, int v, int wet, int place) {
            this.kind = kind;
            this.v = v;
            this.wet = wet;
            this.place = place;
            isTaken = false;
            cracks = 0;
            Arrays.fill(toldRow, 0);
        }

        void copyFrom(Boots other) {
            number = other.number;
            kind = other.kind;
            v = other.v;
            wet = other.wet;
            place = other.place;
            isTaken = other.isTaken;
            cracks = other.cracks;
            System.arraycopy(other.toldRow, 0, toldRow, 0, PARTS);
        }

        int driesAt(int at, Stove stove) {
            int warm = stove.warmAt(at);
            int sum = warm + stove.hut.extraFor(this, at, stove.hour);
            switch (kind) {
                case LEATHER: return Math.max(0, asLeather(sum, warm));
                case FELT: return Math.max(0, sum / 2);
                case STUFFED: return Math.max(0, asStuffed(sum));
                case GUIDES: return Math.max(0, asLeather(sum, warm) + (stove.hour % 4 == 0 ? 2 : 0));
                case SOCKS: return wet < v ? 0 : Math.max(0, sum / 2);
                case TOLD: return Math.max(0, asStuffed(sum) + toldRow[stove.hour % PARTS]);
                default: return Math.max(0, sum);
            }
        }

        private static int asLeather(int sum, int warm) {
            return warm > 8 ? sum / 2 : sum;
        }

        private int asStuffed(int sum) {
            return wet >= 50 ? sum + v : sum;
        }

        boolean spoils(Stove stove) {
            int warm = stove.warmAt(place);
            return kind == LEATHER && warm > 8 || kind == GUIDES && warm > 8 + v;
        }

        /** What an HOUR does to it: the stove must still be as it was ahead of the HOUR. */
        void letHourGo(Stove stove) {
            if (isTaken) {
                return;
            }
            if (spoils(stove)) {
                cracks++;
            }
            // a DRY one stays so, whatever it DRIES
            if (wet > 0) {
                wet = Math.max(0, wet - driesAt(place, stove));
            }
        }
    }

    /** The stove, with the HOUR and the HUT that holds. */
    private static final class Stove {
        int heat = 10;
        int wood = 3;
        int hour;
        Hut hut;

        Stove(Hut bare) {
            hut = bare;
        }

        void copyFrom(Stove other) {
            heat = other.heat;
            wood = other.wood;
            hour = other.hour;
            hut = other.hut;
        }

        int warmAt(int place) {
            return Math.max(0, heat - 3 * place);
        }

        void burnLog() {
            wood--;
            heat = Math.min(MOST_HEAT, heat + hut.log);
        }

        void letHourGo() {
            heat = Math.max(0, heat - hut.cool);
            hour++;
        }
    }

    /** All PAIRS and the stove. */
    private static final class Room {
        final Boots[] boots = new Boots[MOST_PAIRS];
        int count;
        final Stove stove;

        Room(Hut bare) {
            stove = new Stove(bare);
            for (int b = 0; b < MOST_PAIRS; b++) {
                boots[b] = new Boots(b);
            }
        }

        void copyFrom(Room other) {
            count = other.count;
            stove.copyFrom(other.stove);
            for (int b = 0; b < count; b++) {
                boots[b].copyFrom(other.boots[b]);
            }
        }

        int whoIsAt(int place) {
            for (int b = 0; b < count; b++) {
                if (boots[b].place == place) {
                    return b;
                }
            }
            return NOT_ANY;
        }

        int freePlace() {
            int place = 0;
            while (place < PLACES - 1 && whoIsAt(place) >= 0) {
                place++;
            }
            return place;
        }

        void letHourGo() {
            for (int b = 0; b < count; b++) {
                boots[b].letHourGo(stove);
            }
            stove.letHourGo();
        }

        void letHoursGo(int n) {
            for (int k = 0; k < n; k++) {
                letHourGo();
            }
        }

        void follow(int what, int n) {
            if (what == GOES_HOUR) {
                letHourGo();
            } else if (what == GOES_LOG) {
                if (stove.wood > 0) {
                    stove.burnLog();
                }
            } else if (n >= 0 && n < count) {
                boots[n].isTaken = what == GOES_TAKEN;
            }
        }

        int wetOfThoseHere() {
            int wet = 0;
            for (int b = 0; b < count; b++) {
                wet += boots[b].isTaken ? 0 : boots[b].wet;
            }
            return wet;
        }

        int cracksOfAll() {
            int cracks = 0;
            for (int b = 0; b < count; b++) {
                cracks += boots[b].cracks;
            }
            return cracks;
        }

        int dryOfThoseHere() {
            int dry = 0;
            for (int b = 0; b < count; b++) {
                dry += !boots[b].isTaken && boots[b].wet == 0 ? 1 : 0;
            }
            return dry;
        }

        int dryBits() {
            int bits = 0;
            for (int b = 0; b < count; b++) {
                bits |= boots[b].wet == 0 ? 1 << b : 0;
            }
            return bits;
        }
    }

    /** How it goes on with one PAIR alone: the others do not bear on it. */
    private static final class Course {
        final Boots boots = new Boots(0);
        private final Stove stove;

        Course(Hut bare) {
            stove = new Stove(bare);
        }

        void begin(Boots from, Stove now) {
            boots.copyFrom(from);
            stove.copyFrom(now);
        }

        void letHourGo() {
            boots.letHourGo(stove);
            stove.letHourGo();
        }

        int wetBehind(int hours, Boots from, int at, Stove now) {
            begin(from, now);
            boots.place = at;
            for (int k = 0; k < hours; k++) {
                letHourGo();
            }
            return boots.wet;
        }
    }

    /** Which PAIR had best be where: how WET each would be by its PLACE, and the best way to have them all. */
    private static final class Placing {
        private final int[] wetByPlace = new int[MOST_PAIRS * PLACES];
        private final boolean[] isHere = new boolean[MOST_PAIRS];
        private final int[] way = new int[MOST_PAIRS];
        private int count;
        final int[] best = new int[MOST_PAIRS];
        int bestDry;
        int bestWet;

        void foresee(Room room, Course course, int hours) {
            count = room.count;
            for (int b = 0; b < count; b++) {
                isHere[b] = !room.boots[b].isTaken;
                for (int at = 0; at < PLACES; at++) {
                    wetByPlace[b * PLACES + at] = course.wetBehind(hours, room.boots[b], at, room.stove);
                }
            }
        }

        /** How much WETTER those here would be, if two had each other's PLACE (below 0: less WET). */
        int moreByChange(Boots one, Boots other) {
            return moreByMove(one, other.place) + moreByMove(other, one.place);
        }

        private int moreByMove(Boots boots, int at) {
            int row = boots.number * PLACES;
            return boots.isTaken ? 0 : wetByPlace[row + at] - wetByPlace[row + boots.place];
        }

        void findBest() {
            bestDry = -1;
            bestWet = 0;
            tryFrom(0, 0, 0, 0);
        }

        /** All ways in their order for the PAIRS from b on: a later way must be better to be kept. */
        private void tryFrom(int b, int usedBits, int dry, int wet) {
            if (b >= count) {
                keepIfBetter(dry, wet);
                return;
            }
            for (int at = 0; at < PLACES; at++) {
                if ((usedBits >> at & 1) == 0) {
                    way[b] = at;
                    int then = isHere[b] ? wetByPlace[b * PLACES + at] : 0;
                    int isDry = isHere[b] && then == 0 ? 1 : 0;
                    tryFrom(b + 1, usedBits | 1 << at, dry + isDry, wet + then);
                }
            }
        }

        private void keepIfBetter(int dry, int wet) {
            if (dry > bestDry || dry == bestDry && wet < bestWet) {
                bestDry = dry;
                bestWet = wet;
                System.arraycopy(way, 0, best, 0, count);
            }
        }
    }

    /** Rows of up to three numbers, told by hand. */
    private static final class Rows {
        final int[] first;
        final int[] second;
        final int[] third;
        int count;

        Rows(int most) {
            first = new int[most];
            second = new int[most];
            third = new int[most];
        }

        boolean isFull() {
            return count >= first.length;
        }

        int append(int a, int b, int c) {
            if (!isFull()) {
                first[count] = a;
                second[count] = b;
                third[count] = c;
                count++;
            }
            return count;
        }

        void copyFrom(Rows other) {
            count = other.count;
            System.arraycopy(other.first, 0, first, 0, count);
            System.arraycopy(other.second, 0, second, 0, count);
            System.arraycopy(other.third, 0, third, 0, count);
        }

        /** The greatest third number of the rows whose first is as told; -1: there are none. */
        int mostThirdOf(int a) {
            int most = -1;
            for (int i = 0; i < count; i++) {
                if (first[i] == a) {
                    most = Math.max(most, third[i]);
                }
            }
            return most;
        }
    }

    /** A HUT: its cool and log, and its dry and damp as one program, each behind its tests in reverse Polish order. */
    private static final class Hut {
        private static final int NOT = -1, AND = -2, OR = -3, END = -4;
        private static final int LETTERS = 6, SIGNS = 3, NUMBERS = 100;

        int cool = 1;
        int log = 6;
        private int length;
        private final int[] program = new int[MOST_TEXT];
        private int clauses;
        private final int[] amounts = new int[MOST_CLAUSES];
        private final int[] letters = new int[LETTERS];

        void clear() {
            cool = 1;
            log = 6;
            length = 0;
            clauses = 0;
        }

        void append(int code) {
            if (length < MOST_TEXT) {
                program[length] = code;
                length++;
            }
        }

        static int codeOfTest(int letter, int sign, int number) {
            return (letter * SIGNS + sign) * NUMBERS + number;
        }

        /** The tests since the last end are those of a clause that adds so much. */
        void appendEnd(int amount) {
            if (clauses < MOST_CLAUSES) {
                amounts[clauses] = amount;
                clauses++;
                append(END);
            }
        }

        /** The n of all dry that hold, less those of all damp. */
        int extraFor(Boots boots, int at, int hour) {
            letters[0] = boots.number;
            letters[1] = at;
            letters[2] = boots.kind;
            letters[3] = boots.v;
            letters[4] = boots.wet / 10;
            letters[5] = hour % 10;
            int extra = 0;
            int clause = 0;
            // a stack of bits, the latest lowest: at most 4 nested leave it far below 32
            int stack = 0;
            for (int i = 0; i < length; i++) {
                int code = program[i];
                int latest = stack & 1;
                if (code >= 0) {
                    stack = stack << 1 | (isTrue(code) ? 1 : 0);
                } else if (code == NOT) {
                    stack ^= 1;
                } else if (code == AND) {
                    stack = stack >> 1 & (latest | ~1);
                } else if (code == OR) {
                    stack = stack >> 1 | latest;
                } else if (clause < clauses) {
                    extra += latest * amounts[clause];
                    clause++;
                    stack = 0;
                }
            }
            return extra;
        }

        private boolean isTrue(int code) {
            int number = code % NUMBERS;
            int test = code / NUMBERS;
            int letter = test / SIGNS;
            int value = letter < LETTERS ? letters[letter] : 0;
            switch (test % SIGNS) {
                case 0: return value < number;
                case 1: return value == number;
                default: return value > number;
            }
        }
    }

    /** THE TEXT, and how it is read: each part stops at the first byte that it can't go on with. */
    private static final class HutReader {
        private static final int NO_WORD = -1, DRY = 0, DAMP = 1, COOL = 2, LOG = 3;

        private final byte[] text = new byte[MOST_TEXT];
        int length;
        private int at;
        private Hut hut;

        HutReader(Hut bare) {
            hut = bare;
        }

        int append(int sign) {
            if (length < MOST_TEXT) {
                text[length] = (byte) sign;
                length++;
            }
            return length;
        }

        /** The FAULT; -1: there is none. */
        int faultReadingInto(Hut target) {
            hut = target;
            hut.clear();
            at = 0;
            for (int c = 1; c <= MOST_CLAUSES && readClause(); c++) {
                if (at >= length) {
                    return -1;
                }
                if (c == MOST_CLAUSES || !skip(';')) {
                    return at;
                }
            }
            return at;
        }

        private boolean readClause() {
            int word = readWord();
            if (word == NO_WORD || !skip(' ')) {
                return false;
            }
            int n = readNumber();
            if (n < 0) {
                return false;
            }
            if (word == COOL) {
                hut.cool = n;
                return true;
            }
            if (word == LOG) {
                hut.log = n;
                return true;
            }
            if (!skip(' ') || !readAny(0)) {
                return false;
            }
            hut.appendEnd(word == DRY ? n : -n);
            return true;
        }

        private int readWord() {
            if (skip('d')) {
                if (skip('r')) {
                    return skip('y') ? DRY : NO_WORD;
                }
                return skip('a') && skip('m') && skip('p') ? DAMP : NO_WORD;
            }
            if (skip('c')) {
                return skip('o') && skip('o') && skip('l') ? COOL : NO_WORD;
            }
            return skip('l') && skip('o') && skip('g') ? LOG : NO_WORD;
        }

        /** One digit or two; -1: there is none. */
        private int readNumber() {
            int n = -1;
            for (int digits = 0; digits < 2 && at < length; digits++) {
                int digit = text[at] - '0';
                if (digit < 0 || digit > 9) {
                    return n;
                }
                n = digits == 0 ? digit : 10 * n + digit;
                at++;
            }
            return n;
        }

        /** E: parts with | between. */
        private boolean readAny(int nested) {
            if (!readAll(nested)) {
                return false;
            }
            for (int left = length; left > 0 && skip('|'); left--) {
                if (!readAll(nested)) {
                    return false;
                }
                hut.append(Hut.OR);
            }
            return true;
        }

        /** T: parts with & between. */
        private boolean readAll(int nested) {
            if (!readPart(nested)) {
                return false;
            }
            for (int left = length; left > 0 && skip('&'); left--) {
                if (!readPart(nested)) {
                    return false;
                }
                hut.append(Hut.AND);
            }
            return true;
        }

        /** F. */
        private boolean readPart(int nested) {
            boolean mayNest = nested < MOST_NESTED;
            if (mayNest && skip('!')) {
                if (!readPart(nested + 1)) {
                    return false;
                }
                hut.append(Hut.NOT);
                return true;
            }
            if (mayNest && skip('(')) {
                return readAny(nested + 1) && skip(')');
            }
            return readTest();
        }

        private boolean readTest() {
            int letter = letterOf(sign());
            if (letter < 0) {
                return false;
            }
            at++;
            int compare = comparisonOf(sign());
            if (compare < 0) {
                return false;
            }
            at++;
            int number = readNumber();
            if (number < 0) {
                return false;
            }
            hut.append(Hut.codeOfTest(letter, compare, number));
            return true;
        }

        private static int letterOf(int sign) {
            switch (sign) {
                case 'b': return 0;
                case 'p': return 1;
                case 'k': return 2;
                case 'v': return 3;
                case 'w': return 4;
                case 'h': return 5;
                default: return -1;
            }
        }

        private static int comparisonOf(int sign) {
            switch (sign) {
                case '<': return 0;
                case '=': return 1;
                case '>': return 2;
                default: return -1;
            }
        }

        /** The sign that comes next; -1: THE TEXT has ended. */
        private int sign() {
            return at < length ? text[at] : -1;
        }

        private boolean skip(int wanted) {
            if (sign() != wanted) {
                return false;
            }
            at++;
            return true;
        }
    }

    /** The bodies of the ACTS, each by the KIND from which on it is looked for, and THE TRACE. */
    private static final class Acts {
        final int[] bodies = new int[MOST_TRACE];
        int ran;
        private Boots actor = new Boots(0);

        void forget() {
            ran = 0;
        }

        int kept() {
            return Math.min(ran, MOST_TRACE);
        }

        int run(Boots boots, int act, int x) {
            actor = boots;
            switch (act) {
                case 0: return drips(actor.kind, x);
                case 1: return steams(actor.kind, x);
                case 2: return tells(actor.kind, x);
                default: return 0;
            }
        }

        private void note(int body) {
            if (ran < MOST_TRACE) {
                bodies[ran] = body;
            }
            ran++;
        }

        private int drips(int from, int x) {
            switch (from) {
                case FELT:
                    note(30);
                    return drips(Kinds.above(FELT), x * 3);
                case GUIDES:
                    note(50);
                    return -drips(Kinds.above(GUIDES), x);
                case TOLD:
                    note(71);
                    return drips(Kinds.above(TOLD), x) ^ actor.v;
                case PAIR:
                    note(10);
                    return x + actor.number;
                default:
                    return drips(Kinds.above(from), x);
            }
        }

        private int steams(int from, int x) {
            switch (from) {
                case LEATHER:
                    note(20);
                    return steams(Kinds.above(LEATHER), x) ^ 6;
                case GUIDES:
                    note(51);
                    return steams(Kinds.above(GUIDES), x + 1);
                case TOLD:
                    note(70);
                    return steams(Kinds.above(TOLD), x) + drips(Kinds.above(TOLD), 2);
                case PAIR:
                    note(11);
                    return drips(actor.kind, x) - actor.v;
                default:
                    return steams(Kinds.above(from), x);
            }
        }

        private int tells(int from, int x) {
            switch (from) {
                case STUFFED:
                    note(40);
                    return tells(Kinds.above(STUFFED), x) + steams(actor.kind, 1);
                case SOCKS:
                    note(60);
                    return tells(Kinds.above(SOCKS), x - actor.number);
                case PAIR:
                    note(12);
                    return steams(actor.kind, x) * 2;
                default:
                    return tells(Kinds.above(from), x);
            }
        }
    }

    /** A TAPE: its items are kept as longs, already cut to what an item of its sort has. */
    private static final class Tape {
        int sort = EMPTY;
        int length;
        final long[] items = new long[MOST_ITEMS];

        void become(int newSort, int n) {
            sort = newSort;
            length = n;
            Arrays.fill(items, 0L);
        }

        boolean holds(int i, int n) {
            return i >= 0 && n >= 0 && n <= length && i <= length - n;
        }

        long narrowed(long v) {
            switch (sort) {
                case BYTES: return (byte) v;
                case SHORTS: return (short) v;
                case INTS: return (int) v;
                case LONGS: return v;
                default: return v != 0 ? 1 : 0;
            }
        }
    }
}
