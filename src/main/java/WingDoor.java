import java.util.Arrays;

/** A revolving door; the words in capitals are those of the document, DOC.md. */
public final class WingDoor {
    public static final int BAD = -1, STATE = -2, FULL = -3, NONE = -9;
    public static final int NO = -1000000;

    private static final int MOST_LETTERS = 100;
    private static final int MOST_SORTS = 6;
    private static final int MOST_GOERS = 9;
    private static final int MOST_WIDE = 5;
    private static final int MOST_BULK = 5;
    private static final int MOST_PUSH = 9;
    private static final int MOST_STEPS = 999;
    private static final int MOST_UNDONE = 10;
    private static final int MOST_SEEN = 6;
    private static final int IMAGES = 2;

    /** How many STEPS WHEN, STICKS and ALL look on, and what counts as beyond them. */
    private static final int FARTHEST = 60;
    private static final int NEVER = 61;

    private static final int STREET = 0;
    private static final int HALL = 1;

    private static final int WAITS = 0;
    private static final int IN = 1;
    private static final int THROUGH = 2;
    private static final int GONE = 3;

    private static final int NOBODY = -1;

    private static final int BY_BULK = 0;
    private static final int BY_PUSH = 1;

    private final Text text = new Text();
    private final Plan plan = new Plan();
    private final Plan draft = new Plan();
    private final Moment state = new Moment(plan);
    private final Moment trial = new Moment(plan);
    private final Past past = new Past(plan);
    private final Moment[] images = {new Moment(plan), new Moment(plan)};
    private final boolean[] imageKept = new boolean[IMAGES];
    private final Sightings sightings = new Sightings(plan);
    private final long[] ways = new long[MOST_GOERS * MOST_PUSH + 1];
    private final DoorKind[] kinds = {
        new DoorKind(), new BankKind(), new HotelKind(), new CourtKind(), new GrandKind(), new StoreKind()
    };

    public WingDoor() {
    }

    // ---- the door

    public int type(int letter) {
        if (letter < 0 || letter > 255) {
            return BAD;
        }
        return text.add(letter) ? text.length : FULL;
    }

    public int clear() {
        int had = text.length;
        text.length = 0;
        return had;
    }

    public int door() {
        int items = text.tellTo(draft);
        if (items < 0) {
            return items;
        }
        plan.copy(draft);
        text.length = 0;
        state.empty();
        past.size = 0;
        sightings.size = 0;
        for (int image = 0; image < IMAGES; image++) {
            imageKept[image] = false;
        }
        return items;
    }

    public int sort(int s, int what) {
        if (!plan.hasSort(s)) {
            return BAD;
        }
        switch (what) {
            case 0: return plan.bulkOf(s);
            case 1: return plan.pushOf(s);
            case 2: return state.howManyOfSort(s);
            default: return BAD;
        }
    }

    public int goer(int g, int what) {
        if (!state.hasGoer(g)) {
            return BAD;
        }
        switch (what) {
            case 0: return state.sortOf[g];
            case 1: return state.sideOf[g];
            case 2: return state.whereOf[g];
            case 3: return state.whereOf[g] == IN ? state.placeOf[g] : NONE;
            case 4: return state.whereOf[g] == WAITS ? state.howManyAheadOf(g) : NONE;
            case 5: return orNone(whenNow(g));
            default: return BAD;
        }
    }

    public int room(int place, int what) {
        if (place < 0 || place >= plan.rooms) {
            return BAD;
        }
        switch (what) {
            case 0: return state.whoIsInRoomAt(place);
            case 1: return state.bulkInRoomAt(place);
            default: return BAD;
        }
    }

    public int now(int what) {
        switch (what) {
            case 0: return state.step;
            case 1: return state.load();
            case 2: return state.drag();
            case 3: return state.whoIs(WAITS);
            case 4: return state.whoIs(THROUGH);
            case 5: return orNone(sticksNow());
            case 6: return orNone(allNow());
            case 7: return past.size;
            default: return BAD;
        }
    }

    // ---- what is done

    public int comes(int sort, int side) {
        if (!plan.hasSort(sort) || side < STREET || side > HALL) {
            return BAD;
        }
        if (state.goers >= MOST_GOERS) {
            return FULL;
        }
        past.remember(state);
        return state.letCome(sort, side);
    }

    public int steps() {
        if (state.step >= MOST_STEPS) {
            return STATE;
        }
        past.remember(state);
        return state.turn();
    }

    public int leaves(int g) {
        if (!state.hasGoer(g)) {
            return BAD;
        }
        if (state.whereOf[g] != WAITS) {
            return STATE;
        }
        past.remember(state);
        state.giveUp(g);
        return state.howManyAre(WAITS);
    }

    public int lets(int g) {
        if (!state.hasGoer(g)) {
            return BAD;
        }
        if (state.whereOf[g] != WAITS) {
            return STATE;
        }
        int wereAhead = state.howManyAheadOf(g);
        if (wereAhead == 0) {
            return STATE;
        }
        past.remember(state);
        state.letAhead(g);
        return wereAhead;
    }

    public int undo() {
        if (past.size == 0) {
            return STATE;
        }
        past.recall(state);
        return past.size;
    }

    // ---- what is best

    public int spare(int g) {
        return state.hasGoer(g) ? bestHelper(g, false) : BAD;
    }

    public int ahead(int g) {
        return state.hasGoer(g) ? bestHelper(g, true) : BAD;
    }

    public int odds(int x, int what) {
        if (x < 0 || x > 10 || what < 0 || what > 1) {
            return BAD;
        }
        long lower = 1;
        for (int n = state.howManyAre(IN); n > 0; n--) {
            lower *= 10;
        }
        long upper = waysToGo(x);
        long common = greatestDivisor(lower, upper);
        return (int) ((what == 0 ? upper : lower) / Math.max(1, common));
    }

    // ---- which sort

    public int sees(int what, int v, int most) {
        if (what < BY_BULK || what > BY_PUSH || most < 0 || most > 1) {
            return BAD;
        }
        if (v < leastOf(what) || v > mostOf(what)) {
            return BAD;
        }
        return sightings.add(what, v, most) ? sightings.size : FULL;
    }

    public int forget() {
        int was = sightings.size;
        sightings.size = 0;
        return was;
    }

    public int which() {
        return sightings.possibleSorts();
    }

    public int look(int what) {
        if (what < BY_BULK || what > BY_PUSH) {
            return BAD;
        }
        int possible = sightings.possibleSorts();
        int all = Integer.bitCount(possible);
        if (all <= 1) {
            return NONE;
        }
        int best = NONE;
        int bestPart = all + 1;
        for (int v = leastOf(what); v <= mostOf(what); v++) {
            int atMost = plan.howManyAtMost(possible, what, v);
            int greaterPart = Math.max(atMost, all - atMost);
            if (greaterPart < bestPart) {
                bestPart = greaterPart;
                best = v;
            }
        }
        return best;
    }

    // ---- kinds, images

    public int rate(int kind, int g) {
        if (kind < 0 || kind >= kinds.length || !state.hasGoer(g)) {
            return NO;
        }
        return kinds[kind].worth(state, g);
    }

    public int keep(int image) {
        if (image < 0 || image >= IMAGES) {
            return BAD;
        }
        images[image].copy(state);
        imageKept[image] = true;
        return state.step;
    }

    public int back(int image) {
        if (image < 0 || image >= IMAGES) {
            return BAD;
        }
        if (!imageKept[image]) {
            return STATE;
        }
        state.copy(images[image]);
        past.size = 0;
        return state.step;
    }

    public int count(int what) {
        switch (what) {
            case 0: return plan.rooms;
            case 1: return plan.wide;
            case 2: return plan.hard;
            case 3: return plan.sorts;
            case 4: return state.goers;
            case 5: return sightings.size;
            case 6: return text.length;
            default: return BAD;
        }
    }

    public long trace() {
        long sum = 0;
        for (int kind = 0; kind < kinds.length; kind++) {
            sum += kinds[kind].noted;
        }
        return sum;
    }

    // ---- helpers

    private static int orNone(int steps) {
        return steps > FARTHEST ? NONE : steps;
    }

    private int whenNow(int g) {
        trial.copy(state);
        return trial.runUntilThrough(g);
    }

    private int sticksNow() {
        trial.copy(state);
        return trial.runUntilItSticks();
    }

    private int allNow() {
        trial.copy(state);
        return trial.runUntilEmpty();
    }

    /** Who of the others is to be LET AHEAD, or else to GIVE UP, so that g is THROUGH soonest; NONE. */
    private int bestHelper(int g, boolean byLettingAhead) {
        trial.copy(state);
        int best = trial.runUntilThrough(g);
        int who = NONE;
        for (int other = 0; other < state.goers; other++) {
            if (other == g || state.whereOf[other] != WAITS) {
                continue;
            }
            trial.copy(state);
            if (byLettingAhead) {
                trial.letAhead(other);
            } else {
                trial.giveUp(other);
            }
            int when = trial.runUntilThrough(g);
            if (when < best) {
                best = when;
                who = other;
            }
        }
        return who;
    }

    /** Of 10 to the power of how many are IN: by how many the STEP goes, if each doesn't PUSH by x of 10. */
    private long waysToGo(int x) {
        if (state.whoIs(IN) == 0) {
            return 0;
        }
        Arrays.fill(ways, 0);
        ways[0] = 1;
        int heaviest = 0;
        for (int g = 0; g < state.goers; g++) {
            if (state.whereOf[g] == IN) {
                heaviest = addPusher(state.pushOf(g), x, heaviest);
            }
        }
        long sum = 0;
        for (int pushed = state.drag(); pushed <= heaviest; pushed++) {
            sum += ways[pushed];
        }
        return sum;
    }

    /** One more who may PUSH comes into the ways; answers how much all together PUSH at most. */
    private int addPusher(int push, int x, int heaviest) {
        int heavier = Math.min(heaviest + push, ways.length - 1);
        // From above, so that no way is counted again that this one made.
        for (int pushed = heavier - push; pushed >= 0; pushed--) {
            long before = ways[pushed];
            ways[pushed] = before * x;
            ways[pushed + push] += before * (10 - x);
        }
        return heavier;
    }

    private static long greatestDivisor(long a, long b) {
        long larger = a;
        long smaller = b;
        // 100 is far above what Euclid needs for numbers up to 10 to the power of 9.
        for (int i = 0; i < 100 && smaller != 0; i++) {
            long rest = larger % smaller;
            larger = smaller;
            smaller = rest;
        }
        return larger;
    }

    private static int leastOf(int what) {
        return what == BY_BULK ? 1 : 0;
    }

    private static int mostOf(int what) {
        return what == BY_BULK ? MOST_BULK : MOST_PUSH;
    }

    /** THE DOOR as it is told: ROOMS, WIDE, HARD, SORTS. */
    private static final class Plan {
        private int rooms;
        private int wide;
        private int hard;
        private int sorts;
        private final int[] bulk = new int[MOST_SORTS];
        private final int[] push = new int[MOST_SORTS];

        Plan() {
            setFirst();
        }

        void setFirst() {
            rooms = 4;
            wide = 2;
            hard = 3;
            sorts = 0;
        }

        void copy(Plan other) {
            rooms = other.rooms;
            wide = other.wide;
            hard = other.hard;
            sorts = other.sorts;
            System.arraycopy(other.bulk, 0, bulk, 0, MOST_SORTS);
            System.arraycopy(other.push, 0, push, 0, MOST_SORTS);
        }

        void addSort(int itsBulk, int itsPush) {
            if (sorts < MOST_SORTS) {
                bulk[sorts] = itsBulk;
                push[sorts] = itsPush;
                sorts++;
            }
        }

        boolean hasSort(int s) {
            return s >= 0 && s < sorts;
        }

        int bulkOf(int s) {
            return s >= 0 && s < sorts ? bulk[s] : 0;
        }

        int pushOf(int s) {
            return s >= 0 && s < sorts ? push[s] : 0;
        }

        boolean isAtMost(int s, int what, int v) {
            return (what == BY_BULK ? bulkOf(s) : pushOf(s)) <= v;
        }

        int howManyAtMost(int possible, int what, int v) {
            int many = 0;
            for (int s = 0; s < sorts; s++) {
                if ((possible >> s & 1) == 1 && isAtMost(s, what, v)) {
                    many++;
                }
            }
            return many;
        }

        int placeOfSide(int side) {
            return side == STREET ? 0 : rooms / 2;
        }

        int placeBehind(int place) {
            return place + 1 < rooms ? place + 1 : 0;
        }
    }

    /** THE TEXT, and how it is read TOKEN by TOKEN. */
    private static final class Text {
        /** TOKENS that no letter stands for; a letter's TOKEN is that letter. */
        private static final int END = -1;
        private static final int NUMBER = -2;
        private static final int WRONG = -3;

        private final int[] letters = new int[MOST_LETTERS];
        private int length;
        private int at;
        private int token;
        private int tokenAt;
        private int number;
        private boolean hardIsTold;

        boolean add(int letter) {
            if (length >= MOST_LETTERS) {
                return false;
            }
            letters[length] = letter;
            length++;
            return true;
        }

        /** Answers how many ITEMS, or -10 less FAULT. */
        int tellTo(Plan plan) {
            plan.setFirst();
            hardIsTold = false;
            at = 0;
            for (int items = 0; items <= MOST_LETTERS; items++) {
                readToken();
                if (token == END) {
                    return items;
                }
                if (!readItem(plan, items)) {
                    break;
                }
            }
            return -10 - tokenAt;
        }

        /** Stops at the TOKEN that can't stand there, if one can't. */
        private boolean readItem(Plan plan, int itemsAhead) {
            switch (token) {
                case 'r': return itemsAhead == 0 && readRooms(plan);
                case 'h': return !hardIsTold && readHard(plan);
                case 's': return plan.sorts < MOST_SORTS && readSort(plan);
                default: return false;
            }
        }

        private boolean readRooms(Plan plan) {
            if (!readNumber(3, 6)) {
                return false;
            }
            plan.rooms = number;
            if (!readNumber(1, MOST_WIDE)) {
                return false;
            }
            plan.wide = number;
            return readSemicolon();
        }

        private boolean readHard(Plan plan) {
            if (!readNumber(0, 20)) {
                return false;
            }
            plan.hard = number;
            hardIsTold = true;
            return readSemicolon();
        }

        private boolean readSort(Plan plan) {
            if (!readNumber(1, plan.wide)) {
                return false;
            }
            int bulk = number;
            if (!readNumber(0, MOST_PUSH)) {
                return false;
            }
            plan.addSort(bulk, number);
            return readSemicolon();
        }

        private boolean readNumber(int least, int most) {
            readToken();
            return token == NUMBER && number >= least && number <= most;
        }

        private boolean readSemicolon() {
            readToken();
            return token == ';';
        }

        private void readToken() {
            while (at < length && letters[at] == ' ') {
                at++;
            }
            tokenAt = at;
            if (at >= length) {
                token = END;
                return;
            }
            int letter = letters[at];
            if (letter >= '0' && letter <= '9') {
                readDigits();
            } else {
                token = letter == 'r' || letter == 'h' || letter == 's' || letter == ';' ? letter : WRONG;
                at++;
            }
        }

        private void readDigits() {
            number = 0;
            while (at < length && letters[at] >= '0' && letters[at] <= '9') {
                // Past two digits the TOKEN is wrong whatever it amounts to.
                number = at - tokenAt < 2 ? number * 10 + letters[at] - '0' : number;
                at++;
            }
            int digits = at - tokenAt;
            boolean zeroAhead = digits > 1 && number < 10;
            token = digits > 2 || zeroAhead ? WRONG : NUMBER;
        }
    }

    /** GOERS, where all of them are, and the STEP. */
    private static final class Moment {
        private final Plan plan;
        private int step;
        private int goers;
        private final int[] sortOf = new int[MOST_GOERS];
        private final int[] sideOf = new int[MOST_GOERS];
        private final int[] whereOf = new int[MOST_GOERS];
        private final int[] placeOf = new int[MOST_GOERS];
        /** Of those who WAIT on a SIDE, the one whose turn is least is the first. */
        private final int[] turnOf = new int[MOST_GOERS];

        Moment(Plan plan) {
            this.plan = plan;
        }

        void empty() {
            step = 0;
            goers = 0;
        }

        void copy(Moment other) {
            step = other.step;
            goers = other.goers;
            System.arraycopy(other.sortOf, 0, sortOf, 0, MOST_GOERS);
            System.arraycopy(other.sideOf, 0, sideOf, 0, MOST_GOERS);
            System.arraycopy(other.whereOf, 0, whereOf, 0, MOST_GOERS);
            System.arraycopy(other.placeOf, 0, placeOf, 0, MOST_GOERS);
            System.arraycopy(other.turnOf, 0, turnOf, 0, MOST_GOERS);
        }

        boolean hasGoer(int g) {
            return g >= 0 && g < goers;
        }

        int bulkOf(int g) {
            return hasGoer(g) ? plan.bulkOf(sortOf[g]) : 0;
        }

        int pushOf(int g) {
            return hasGoer(g) ? plan.pushOf(sortOf[g]) : 0;
        }

        int howManyOfSort(int s) {
            int many = 0;
            for (int g = 0; g < goers; g++) {
                if (sortOf[g] == s) {
                    many++;
                }
            }
            return many;
        }

        int whoIs(int where) {
            int bits = 0;
            for (int g = 0; g < goers; g++) {
                if (whereOf[g] == where) {
                    bits |= 1 << g;
                }
            }
            return bits;
        }

        int howManyAre(int where) {
            return Integer.bitCount(whoIs(where));
        }

        int whoIsInRoomAt(int place) {
            int bits = 0;
            for (int g = 0; g < goers; g++) {
                if (whereOf[g] == IN && placeOf[g] == place) {
                    bits |= 1 << g;
                }
            }
            return bits;
        }

        int bulkInRoomAt(int place) {
            int sum = 0;
            for (int g = 0; g < goers; g++) {
                if (whereOf[g] == IN && placeOf[g] == place) {
                    sum += plan.bulkOf(sortOf[g]);
                }
            }
            return sum;
        }

        int load() {
            int sum = 0;
            for (int g = 0; g < goers; g++) {
                if (whereOf[g] == IN) {
                    sum += plan.pushOf(sortOf[g]);
                }
            }
            return sum;
        }

        int drag() {
            return plan.hard + Integer.bitCount(whoIs(IN));
        }

        boolean sticks() {
            return whoIs(IN) == 0 || load() < drag();
        }

        int firstOn(int side) {
            int first = NOBODY;
            for (int g = 0; g < goers; g++) {
                boolean waitsHere = whereOf[g] == WAITS && sideOf[g] == side;
                if (waitsHere && (first == NOBODY || turnOf[g] < turnOf[first])) {
                    first = g;
                }
            }
            return first;
        }

        int howManyAheadOf(int g) {
            if (!hasGoer(g)) {
                return 0;
            }
            int many = 0;
            for (int other = 0; other < goers; other++) {
                boolean waitsThere = whereOf[other] == WAITS && sideOf[other] == sideOf[g];
                if (waitsThere && turnOf[other] < turnOf[g]) {
                    many++;
                }
            }
            return many;
        }

        /** One comes, for whom there must be room: his number. */
        int letCome(int sort, int side) {
            if (goers >= MOST_GOERS) {
                return NOBODY;
            }
            int g = goers;
            goers++;
            sortOf[g] = sort;
            sideOf[g] = side;
            whereOf[g] = WAITS;
            placeOf[g] = 0;
            // No turn is above its owner's number, so that this one is behind all.
            turnOf[g] = g;
            fill();
            return g;
        }

        void giveUp(int g) {
            if (hasGoer(g) && whereOf[g] == WAITS) {
                whereOf[g] = GONE;
                fill();
            }
        }

        void letAhead(int g) {
            if (!hasGoer(g) || whereOf[g] != WAITS) {
                return;
            }
            int first = firstOn(sideOf[g]);
            if (first != NOBODY && first != g) {
                turnOf[g] = turnOf[first] - 1;
                fill();
            }
        }

        /** A STEP: how many are THROUGH by it. */
        int turn() {
            boolean stuck = sticks();
            step++;
            if (stuck) {
                return 0;
            }
            int through = 0;
            for (int g = 0; g < goers; g++) {
                if (whereOf[g] == IN && carry(g)) {
                    through++;
                }
            }
            fill();
            return through;
        }

        /** One who is IN comes to the next PLACE; whether he is THROUGH then. */
        private boolean carry(int g) {
            placeOf[g] = plan.placeBehind(placeOf[g]);
            boolean isThrough = placeOf[g] == plan.placeOfSide(HALL - sideOf[g]);
            if (isThrough) {
                whereOf[g] = THROUGH;
            }
            return isThrough;
        }

        private void fill() {
            for (int side = STREET; side <= HALL; side++) {
                int place = plan.placeOfSide(side);
                int left = plan.wide - bulkInRoomAt(place);
                int first = firstOn(side);
                for (int n = 0; n < goers && first != NOBODY; n++) {
                    left -= plan.bulkOf(sortOf[first]);
                    if (left < 0) {
                        break;
                    }
                    whereOf[first] = IN;
                    placeOf[first] = place;
                    first = firstOn(side);
                }
            }
        }

        // The three below let STEPS go by in this very Moment: they are asked of a copy.
        // A door that once STICKS does so ever after, since nothing moves.

        int runUntilThrough(int g) {
            for (int n = 0; n <= FARTHEST && hasGoer(g); n++) {
                if (whereOf[g] == THROUGH) {
                    return n;
                }
                if (sticks()) {
                    return NEVER;
                }
                turn();
            }
            return NEVER;
        }

        int runUntilItSticks() {
            for (int n = 0; n <= FARTHEST; n++) {
                if (sticks()) {
                    return n;
                }
                turn();
            }
            return NEVER;
        }

        int runUntilEmpty() {
            for (int n = 0; n <= FARTHEST; n++) {
                if (whoIs(WAITS) == 0 && whoIs(IN) == 0) {
                    return n;
                }
                if (sticks()) {
                    return NEVER;
                }
                turn();
            }
            return NEVER;
        }
    }

    /** What may be UNDONE: how all was ahead of the latest things done, the oldest lost first. */
    private static final class Past {
        private final Moment[] moments = new Moment[MOST_UNDONE];
        private int oldest;
        private int size;

        Past(Plan plan) {
            for (int i = 0; i < MOST_UNDONE; i++) {
                moments[i] = new Moment(plan);
            }
        }

        void remember(Moment now) {
            moments[(oldest + size) % MOST_UNDONE].copy(now);
            if (size < MOST_UNDONE) {
                size++;
            } else {
                oldest = (oldest + 1) % MOST_UNDONE;
            }
        }

        void recall(Moment now) {
            if (size > 0) {
                size--;
                now.copy(moments[(oldest + size) % MOST_UNDONE]);
            }
        }
    }

    /** What was SEEN of an unknown one. */
    private static final class Sightings {
        private final Plan plan;
        private final int[] what = new int[MOST_SEEN];
        private final int[] bound = new int[MOST_SEEN];
        private final int[] most = new int[MOST_SEEN];
        private int size;

        Sightings(Plan plan) {
            this.plan = plan;
        }

        boolean add(int itsWhat, int itsBound, int itsMost) {
            if (size >= MOST_SEEN) {
                return false;
            }
            what[size] = itsWhat;
            bound[size] = itsBound;
            most[size] = itsMost;
            size++;
            return true;
        }

        int possibleSorts() {
            int bits = 0;
            for (int s = 0; s < plan.sorts; s++) {
                if (allIsSoOf(s)) {
                    bits |= 1 << s;
                }
            }
            return bits;
        }

        private boolean allIsSoOf(int s) {
            for (int i = 0; i < size; i++) {
                if (plan.isAtMost(s, what[i], bound[i]) != (most[i] == 1)) {
                    return false;
                }
            }
            return true;
        }
    }

    // KINDS: each asks the one above it once, and notes what its own body adds to THE TRACE.

    private static class DoorKind {
        long noted;

        int worth(Moment now, int g) {
            noted += 1;
            return now.bulkOf(g);
        }
    }

    private static class BankKind extends DoorKind {
        int worth(Moment now, int g) {
            noted += 10;
            return super.worth(now, g) + now.pushOf(g);
        }
    }

    private static class HotelKind extends DoorKind {
        int worth(Moment now, int g) {
            noted += 100;
            return super.worth(now, g) - now.howManyAre(WAITS);
        }
    }

    private static final class CourtKind extends BankKind {
        int worth(Moment now, int g) {
            noted += 1000;
            return 2 * super.worth(now, g);
        }
    }

    private static final class GrandKind extends HotelKind {
        int worth(Moment now, int g) {
            noted += 10000;
            return super.worth(now, g) + g;
        }
    }

    private static final class StoreKind extends DoorKind {
        int worth(Moment now, int g) {
            noted += 100000;
            return super.worth(now, g) + now.step;
        }
    }
}
