import java.util.Arrays;

/**
 * Before one picture: a house of rooms, doors, pictures and groups of visitors, minute by minute.
 * What each method promises stands in DOC.md, under its number.
 */
public final class RailOfHeads {
    public static final int NONE = -1000000, BAD = -1000001, STATE = -1000002, FULL = -1000003;

    private static final int FINDINGS = -1000010, FAULTS = -1000100;
    private static final int NULL = 1, PLACE = 2, KIND = 3, SIZE = 4, STORE = 5;

    private static final int MOST_ROWS = 8, MOST_ITEMS = 40, MOST_BYTES = 400, MOST_IMAGES = 2;
    private static final int MOST_ROOMS = 6, MOST_DOORS = 9, MOST_PICTURES = 8, MOST_GROUPS = 6;
    private static final int MOST_VISITORS = 30, MOST_HOLDS = 40, MOST_DRAW = 60, MOST_MANY = 20;
    private static final int MOST_RAIL = 20, MOST_GUARD = 20, MOST_PATIENCE = 20, LAST_TICKET = 60;
    private static final int MOST_MINUTES = 60, LONGEST_DAY = 120, MOST_HUNG = 4, MOST_TRACE = 16;

    private static final int FIRST = 0, DRAW = 1, ROUND = 2, LAWS = 3;
    private static final int LOOK = 0, CLEAR = 1, OVER = 2, PASSING = 3, WAITING = 4, GONE = 5;
    private static final int TO_COME = -1, OUT = -2, NO_AIM = -1;

    private final Row[] rows = new Row[MOST_ROWS];
    private final Reader reader = new Reader();
    private final House live = new House();
    // what is foretold, or just being read, happens here, so that nothing changes in the live one
    private final House trial = new House();
    private final House[] images = new House[MOST_IMAGES];
    private final Asks asks = new Asks(live.crowd);
    private final int[] hanging = new int[MOST_HUNG];
    private final int[] bestHanging = new int[MOST_HUNG];
    private int latestFault;
    private int latestFinding;

    public RailOfHeads() {
        for (int i = 0; i < MOST_ROWS; i++) {
            rows[i] = new Row();
        }
        for (int k = 0; k < MOST_IMAGES; k++) {
            images[k] = new House();
        }
    }

    // ---- rows

    public int row(int row, int lane, int n) {
        if (!isBelow(row, MOST_ROWS) || !isBelow(lane, Row.LANES) || n > MOST_ITEMS) {
            return BAD;
        }
        if (n < 0) {
            return finding(SIZE);
        }
        rows[row].make(lane, n);
        return unfound(n);
    }

    public int set(int row, int i, int v) {
        if (!isBelow(row, MOST_ROWS)) {
            return BAD;
        }
        Row r = rows[row];
        if (r.missing) {
            return finding(NULL);
        }
        if (!r.holds(i, 1)) {
            return finding(PLACE);
        }
        r.items[i] = r.cut(v);
        return unfound(r.items[i]);
    }

    public int copy(int a, int i, int b, int j, int n) {
        if (!isBelow(a, MOST_ROWS) || !isBelow(b, MOST_ROWS)) {
            return BAD;
        }
        Row from = rows[a];
        Row to = rows[b];
        if (from.missing || to.missing) {
            return finding(NULL);
        }
        if (from.lane != to.lane) {
            return finding(STORE);
        }
        if (!from.holds(i, n) || !to.holds(j, n)) {
            return finding(PLACE);
        }
        System.arraycopy(from.items, i, to.items, j, n);
        return unfound(n);
    }

    public int drop(int row) {
        if (!isBelow(row, MOST_ROWS)) {
            return BAD;
        }
        if (rows[row].missing) {
            return finding(NULL);
        }
        rows[row].missing = true;
        return unfound(rows[row].length);
    }

    // ---- houses, minutes

    public int feed(long w, int n) {
        if (!isWithin(n, 1, 8)) {
            return BAD;
        }
        if (reader.length + n > MOST_BYTES) {
            return FULL;
        }
        for (int i = n - 1; i >= 0; i--) {
            reader.put((byte) (w >> (8 * i)));
        }
        return reader.length;
    }

    public int house() {
        reader.read(trial.plan);
        reader.length = 0;
        if (reader.fault != 0) {
            latestFault = reader.fault;
            return FAULTS - reader.start;
        }
        live.takePlan(trial);
        live.ways.measure(live.plan);
        live.crowd.begin(0);
        return live.plan.visitors;
    }

    public int fault() {
        return latestFault;
    }

    public int far(int a, int b) {
        if (!isBelow(a, live.plan.rooms) || !isBelow(b, live.plan.rooms)) {
            return BAD;
        }
        int doors = live.ways.doors[a * MOST_ROOMS + b];
        return doors == Ways.NO_WAY ? NONE : doors;
    }

    public int go(int n) {
        if (noHouse()) {
            return STATE;
        }
        if (!isWithin(n, 1, MOST_MINUTES)) {
            return BAD;
        }
        for (int i = 0; i < n; i++) {
            live.crowd.passMinute();
        }
        return live.crowd.minute;
    }

    public int rule(int rail, int guard) {
        if (noHouse()) {
            return STATE;
        }
        if (!isWithin(rail, 1, MOST_RAIL) || !isWithin(guard, 0, MOST_GUARD)) {
            return BAD;
        }
        live.plan.rail = rail;
        live.plan.guard = guard;
        return 1;
    }

    public int visitor(int visitor, int what) {
        if (noVisitor(visitor)) {
            return BAD;
        }
        Crowd crowd = live.crowd;
        int aim = crowd.aim[visitor];
        switch (what) {
            case 0: return crowd.group[visitor];
            case 1: return crowd.place[visitor] < 0 ? NONE : crowd.place[visitor];
            case 2: return crowd.place[visitor] == OUT ? 1 : 0;
            case 3: return crowd.patience[visitor];
            case 4: return crowd.saw[visitor];
            case 5: return crowd.done[visitor];
            case 6: return crowd.missed[visitor];
            case 7: return aim == NO_AIM ? NONE : aim;
            case 8: return aim == NO_AIM ? 0 : crowd.looked[visitor * MOST_PICTURES + aim];
            default: return BAD;
        }
    }

    public int room(int room, int what) {
        if (!isBelow(room, live.plan.rooms) || !isBelow(what, 2)) {
            return BAD;
        }
        return what == 0 ? live.plan.holds[room] : live.crowd.inside[room];
    }

    // ---- foretold

    public int seen(int n, int what) {
        if (noHouse()) {
            return STATE;
        }
        if (noDay(n) || !isBelow(what, 3)) {
            return BAD;
        }
        trial.takePlan(live);
        return trial.seenInDay(n, what, 0);
    }

    public int bestRule(int n, int of, int what) {
        if (noHouse()) {
            return STATE;
        }
        if (noDay(n) || !isBelow(of, 2) || !isBelow(what, 2)) {
            return BAD;
        }
        trial.takePlan(live);
        return of == 0 ? bestRail(n, what) : bestGuard(n, what);
    }

    public int tickets(int group, int n) {
        if (!isBelow(group, live.plan.groups) || noDay(n)) {
            return BAD;
        }
        trial.takePlan(live);
        int best = 0;
        int most = -1;
        for (int minute = 0; minute <= LAST_TICKET; minute++) {
            trial.plan.groupMinute[group] = minute;
            int all = trial.seenInDay(n, 0, 0);
            if (all > most) {
                most = all;
                best = minute;
            }
        }
        return best;
    }

    public int oneWay(int door, int n) {
        if (!isBelow(door, live.plan.doors) || noDay(n)) {
            return BAD;
        }
        trial.takePlan(live);
        int asTold = trial.seenInDay(n, 0, 0);
        trial.plan.doorOneWay[door] = 1;
        trial.ways.measure(trial.plan);
        return trial.seenInDay(n, 0, 0) - asTold;
    }

    public int picture(int picture, int n, int what) {
        if (!isBelow(picture, live.plan.pictures) || noDay(n) || !isBelow(what, 2)) {
            return BAD;
        }
        trial.takePlan(live);
        int asTold = trial.seenInDay(n, 0, 0);
        if (what == 1) {
            return asTold - trial.seenInDay(n, 0, 1 << picture);
        }
        trial.plan.pictureMinutes[picture]--;
        return trial.seenInDay(n, 0, 0) - asTold;
    }

    public int hung(int n, int place) {
        if (noHouse()) {
            return STATE;
        }
        if (noDay(n) || place < -1) {
            return BAD;
        }
        int pictures = live.plan.pictures;
        if (!isWithin(pictures, 1, MOST_HUNG) || place >= pictures) {
            return NONE;
        }
        int most = hangBest(n, pictures);
        return place == -1 ? most : bestHanging[place];
    }

    public int fire() {
        if (noHouse()) {
            return STATE;
        }
        int minutes = 0;
        for (int v = 0; v < live.plan.visitors; v++) {
            int place = live.crowd.place[v];
            if (place < 0) {
                continue;
            }
            int doors = live.ways.doors[place * MOST_ROOMS];
            if (doors == Ways.NO_WAY) {
                return NONE;
            }
            minutes = Math.max(minutes, doors + 1);
        }
        return minutes;
    }

    public int counts(int room, int row, int i, int n) {
        if (!isBelow(room, live.plan.rooms) || !isBelow(row, MOST_ROWS) || !isWithin(n, 1, MOST_ITEMS)) {
            return BAD;
        }
        if (rows[row].missing) {
            return finding(NULL);
        }
        if (!rows[row].holds(i, n)) {
            return finding(PLACE);
        }
        for (int k = 0; k < n; k++) {
            if (!isWithin(rows[row].items[i + k], 0, MOST_VISITORS)) {
                return BAD;
            }
        }
        return unfound(nearestLaw(room, rows[row], i, n));
    }

    public int image(int k) {
        if (!isBelow(k, MOST_IMAGES)) {
            return BAD;
        }
        if (noHouse()) {
            return STATE;
        }
        images[k].takeAll(live);
        return 1;
    }

    public int restore(int k) {
        if (!isBelow(k, MOST_IMAGES)) {
            return BAD;
        }
        if (images[k].plan.rooms == 0) {
            return STATE;
        }
        live.takeAll(images[k]);
        return 1;
    }

    // ---- asked

    public int kind(int visitor) {
        return noVisitor(visitor) ? BAD : live.crowd.kindOf(visitor);
    }

    public int as(int visitor, int kind) {
        if (noVisitor(visitor) || !isWithin(kind, LOOK, GONE)) {
            return BAD;
        }
        int own = live.crowd.kindOf(visitor);
        boolean isOne = kind == LOOK || kind == own || (kind == PASSING && own == WAITING);
        return isOne ? unfound(visitor) : finding(KIND);
    }

    public int ask(int visitor, int what) {
        if (noVisitor(visitor) || !isBelow(what, 2)) {
            return BAD;
        }
        asks.traced = 0;
        return what == 0 ? asks.size(visitor, 0) : asks.mark(visitor, 0);
    }

    public int trace(int i) {
        return isBelow(i, asks.traced) ? asks.bodies[i] : NONE;
    }

    public int count(int what) {
        switch (what) {
            case 0: return standingRows();
            case 1: return live.plan.rooms;
            case 2: return live.plan.doors;
            case 3: return live.plan.pictures;
            case 4: return live.plan.groups;
            case 5: return live.plan.visitors;
            case 6: return live.crowd.minute;
            case 7: return live.crowd.out;
            case 8: return reader.length;
            default: return BAD;
        }
    }

    public int status() {
        return latestFinding;
    }

    private static boolean isWithin(int x, int least, int most) {
        return x >= least && x <= most;
    }

    private static boolean isBelow(int x, int bound) {
        return x >= 0 && x < bound;
    }

    private boolean noHouse() {
        return live.plan.rooms == 0;
    }

    private boolean noVisitor(int v) {
        return !isBelow(v, live.plan.visitors);
    }

    private static boolean noDay(int n) {
        return !isWithin(n, 1, LONGEST_DAY);
    }

    private int finding(int number) {
        latestFinding = number;
        return FINDINGS - number;
    }

    private int unfound(int answer) {
        latestFinding = 0;
        return answer;
    }

    private int standingRows() {
        int standing = 0;
        for (int i = 0; i < MOST_ROWS; i++) {
            standing += rows[i].missing ? 0 : 1;
        }
        return standing;
    }

    private int bestRail(int n, int what) {
        int best = 1;
        int most = -1;
        for (int rail = 1; rail <= MOST_RAIL; rail++) {
            trial.plan.rail = rail;
            int all = trial.seenInDay(n, what, 0);
            if (all > most) {
                most = all;
                best = rail;
            }
        }
        return best;
    }

    private int bestGuard(int n, int what) {
        int best = 0;
        int most = -1;
        for (int guard = 0; guard <= MOST_GUARD; guard++) {
            trial.plan.guard = guard;
            int all = trial.seenInDay(n, what, 0);
            if (all > most) {
                most = all;
                best = guard;
            }
        }
        return best;
    }

    /** Codes are p of 0, p of 1 .. as figures, so that they come in the order in which the first counts. */
    private int hangBest(int n, int pictures) {
        int codes = 1;
        for (int k = 0; k < pictures; k++) {
            codes *= pictures;
        }
        trial.takePlan(live);
        int most = -1;
        for (int code = 0; code < codes; code++) {
            if (!hangBy(code, pictures)) {
                continue;
            }
            int all = trial.seenInDay(n, 0, 0);
            if (all > most) {
                most = all;
                System.arraycopy(hanging, 0, bestHanging, 0, pictures);
            }
        }
        return most;
    }

    /** False: a p comes twice, and nothing is hung that may be asked for. */
    private boolean hangBy(int code, int pictures) {
        int left = code;
        int used = 0;
        for (int k = pictures - 1; k >= 0; k--) {
            int p = left % pictures;
            left /= pictures;
            used |= 1 << p;
            hanging[k] = p;
            trial.plan.pictureRoom[k] = live.plan.pictureRoom[p];
        }
        return used == (1 << pictures) - 1;
    }

    private int nearestLaw(int room, Row row, int from, int n) {
        trial.takePlan(live);
        int nearest = FIRST;
        int least = -1;
        for (int law = FIRST; law < LAWS; law++) {
            Arrays.fill(trial.plan.groupLaw, law);
            int off = offBy(room, row, from, n);
            if (least < 0 || off < least) {
                least = off;
                nearest = law;
            }
        }
        return nearest;
    }

    private int offBy(int room, Row row, int from, int n) {
        int off = 0;
        trial.crowd.begin(0);
        for (int k = 0; k < n; k++) {
            trial.crowd.passMinute();
            off += Math.abs(trial.crowd.inside[room] - row.items[from + k]);
        }
        return off;
    }

    /** A ROW: missing, or ITEMS of one LANE. */
    private static final class Row {
        static final int LANES = 3;

        final int[] items = new int[MOST_ITEMS];
        boolean missing = true;
        int lane;
        int length;

        void make(int newLane, int n) {
            missing = false;
            lane = newLane;
            length = n;
            Arrays.fill(items, 0);
        }

        boolean holds(int from, int n) {
            // a difference, as the sum of two great numbers would wrap around
            return from >= 0 && n >= 0 && n <= length && from <= length - n;
        }

        int cut(int v) {
            return lane == 0 ? (byte) v : lane == 1 ? (short) v : v;
        }
    }

    /** THE TAPE, and the reading of it into a Plan. */
    private static final class Reader {
        private static final int END = 0, NAME = 1, NUMBER = 2, SIGN = 3, NOTHING = 4;
        private static final int MISPLACED = 1, UNTOLD = 2, TOO_MANY = 3;

        private final byte[] tape = new byte[MOST_BYTES];
        int length;
        int start;
        int fault;
        private int at;
        private int sort;
        private int number;
        private Plan plan;

        void put(byte b) {
            if (length < MOST_BYTES) {
                tape[length] = b;
                length++;
            }
        }

        /** Behind it, fault is 0, or start is the place of the FAULT. */
        void read(Plan into) {
            plan = into;
            plan.clear();
            at = 0;
            fault = 0;
            advance();
            readRail();
            readRooms();
            readDoors();
            readPictures();
            readGroups();
            if (fault == 0 && sort != END) {
                fault = MISPLACED;
            }
        }

        private void readRail() {
            takeWord("rail", 0, 1);
            plan.rail = takeNumber(1, MOST_RAIL);
            plan.guard = takeNumber(0, MOST_GUARD);
            takeSign();
        }

        private void readRooms() {
            for (int i = 0; i <= MOST_ROOMS && (i == 0 || isWord("room")); i++) {
                takeWord("room", i, MOST_ROOMS);
                int holds = takeNumber(1, MOST_HOLDS);
                takeSign();
                if (fault == 0) {
                    plan.addRoom(holds);
                }
            }
        }

        private void readDoors() {
            for (int i = 0; i <= MOST_DOORS && isWord("door"); i++) {
                takeWord("door", i, MOST_DOORS);
                int a = takeNumber(0, plan.rooms - 1);
                if (fault == 0 && sort == NUMBER && number == a) {
                    fault = UNTOLD;
                }
                int b = takeNumber(0, plan.rooms - 1);
                boolean one = isWord("one");
                if (one) {
                    advance();
                }
                takeSign();
                if (fault == 0) {
                    plan.addDoor(a, b, one);
                }
            }
        }

        private void readPictures() {
            for (int i = 0; i <= MOST_PICTURES && (i == 0 || isWord("picture")); i++) {
                takeWord("picture", i, MOST_PICTURES);
                int room = takeNumber(0, plan.rooms - 1);
                int draw = takeNumber(1, MOST_DRAW);
                takeSign();
                if (fault == 0) {
                    plan.addPicture(room, draw);
                }
            }
        }

        private void readGroups() {
            for (int i = 0; i <= MOST_GROUPS && (i == 0 || isWord("group")); i++) {
                takeWord("group", i, MOST_GROUPS);
                int many = takeNumber(1, Math.min(MOST_MANY, MOST_VISITORS - plan.visitors));
                int minute = takeNumber(0, LAST_TICKET);
                int law = takeLaw();
                int patience = takeNumber(0, MOST_PATIENCE);
                takeSign();
                if (fault == 0) {
                    plan.addGroup(many, minute, law, patience);
                }
            }
        }

        private void takeWord(String word, int have, int most) {
            if (fault != 0) {
                return;
            }
            if (!isWord(word)) {
                fault = MISPLACED;
            } else if (have >= most) {
                fault = TOO_MANY;
            } else {
                advance();
            }
        }

        private int takeNumber(int least, int most) {
            int taken = number;
            if (fault == 0 && sort != NUMBER) {
                fault = MISPLACED;
            }
            if (fault == 0 && !isWithin(taken, least, most)) {
                fault = UNTOLD;
            }
            if (fault == 0) {
                advance();
            }
            return taken;
        }

        private int takeLaw() {
            int law = isWord("first") ? FIRST : isWord("draw") ? DRAW : isWord("round") ? ROUND : LAWS;
            if (fault == 0 && law == LAWS) {
                fault = MISPLACED;
            }
            if (fault == 0) {
                advance();
            }
            return law;
        }

        private void takeSign() {
            if (fault == 0 && sort != SIGN) {
                fault = MISPLACED;
            }
            if (fault == 0) {
                advance();
            }
        }

        /** With a FAULT no word is one any more: reading stops there. */
        private boolean isWord(String word) {
            if (fault != 0 || sort != NAME || at - start != word.length()) {
                return false;
            }
            for (int i = 0; i < word.length(); i++) {
                if (tape[start + i] != word.charAt(i)) {
                    return false;
                }
            }
            return true;
        }

        private void advance() {
            while (at < length && (tape[at] == 32 || tape[at] == 10)) {
                at++;
            }
            start = at;
            if (at >= length) {
                sort = END;
            } else if (isWithin(tape[at], 'a', 'z')) {
                passName();
            } else if (isWithin(tape[at], '0', '9')) {
                passNumber();
            } else {
                sort = tape[at] == ';' ? SIGN : NOTHING;
                at++;
            }
        }

        private void passName() {
            sort = NAME;
            while (at < length && isWithin(tape[at], 'a', 'z')) {
                at++;
            }
        }

        private void passNumber() {
            number = 0;
            while (at < length && isWithin(tape[at], '0', '9')) {
                number = at - start < 3 ? number * 10 + tape[at] - '0' : number;
                at++;
            }
            sort = at - start <= 3 ? NUMBER : NOTHING;
        }
    }

    /** A HOUSE as it is told; without ROOMS there is none. */
    private static final class Plan {
        int rail;
        int guard;
        int rooms;
        final int[] holds = new int[MOST_ROOMS];
        int doors;
        final int[] doorFrom = new int[MOST_DOORS];
        final int[] doorTo = new int[MOST_DOORS];
        final int[] doorOneWay = new int[MOST_DOORS];
        int pictures;
        final int[] pictureRoom = new int[MOST_PICTURES];
        final int[] pictureDraw = new int[MOST_PICTURES];
        final int[] pictureMinutes = new int[MOST_PICTURES];
        int groups;
        final int[] groupMany = new int[MOST_GROUPS];
        final int[] groupMinute = new int[MOST_GROUPS];
        final int[] groupLaw = new int[MOST_GROUPS];
        final int[] groupPatience = new int[MOST_GROUPS];
        int visitors;

        void clear() {
            rooms = 0;
            doors = 0;
            pictures = 0;
            groups = 0;
            visitors = 0;
        }

        void addRoom(int many) {
            if (rooms < MOST_ROOMS) {
                holds[rooms] = many;
                rooms++;
            }
        }

        void addDoor(int from, int to, boolean one) {
            if (doors < MOST_DOORS) {
                doorFrom[doors] = from;
                doorTo[doors] = to;
                doorOneWay[doors] = one ? 1 : 0;
                doors++;
            }
        }

        void addPicture(int room, int draw) {
            if (pictures < MOST_PICTURES) {
                pictureRoom[pictures] = room;
                pictureDraw[pictures] = draw;
                pictureMinutes[pictures] = 2 + draw / 10;
                pictures++;
            }
        }

        void addGroup(int many, int minute, int law, int patience) {
            if (groups < MOST_GROUPS && visitors + many <= MOST_VISITORS) {
                groupMany[groups] = many;
                groupMinute[groups] = minute;
                groupLaw[groups] = law;
                groupPatience[groups] = patience;
                groups++;
                visitors += many;
            }
        }

        void takeOver(Plan other) {
            rail = other.rail;
            guard = other.guard;
            rooms = other.rooms;
            doors = other.doors;
            pictures = other.pictures;
            groups = other.groups;
            visitors = other.visitors;
            System.arraycopy(other.holds, 0, holds, 0, MOST_ROOMS);
            System.arraycopy(other.doorFrom, 0, doorFrom, 0, MOST_DOORS);
            System.arraycopy(other.doorTo, 0, doorTo, 0, MOST_DOORS);
            System.arraycopy(other.doorOneWay, 0, doorOneWay, 0, MOST_DOORS);
            System.arraycopy(other.pictureRoom, 0, pictureRoom, 0, MOST_PICTURES);
            System.arraycopy(other.pictureDraw, 0, pictureDraw, 0, MOST_PICTURES);
            System.arraycopy(other.pictureMinutes, 0, pictureMinutes, 0, MOST_PICTURES);
            System.arraycopy(other.groupMany, 0, groupMany, 0, MOST_GROUPS);
            System.arraycopy(other.groupMinute, 0, groupMinute, 0, MOST_GROUPS);
            System.arraycopy(other.groupLaw, 0, groupLaw, 0, MOST_GROUPS);
            System.arraycopy(other.groupPatience, 0, groupPatience, 0, MOST_GROUPS);
        }
    }

    /** FAR, and the next ROOM, from each ROOM (times MOST_ROOMS) to each. */
    private static final class Ways {
        // far above 5 DOORS, and twice it is still no wrap-around
        static final int NO_WAY = 1000;

        final int[] doors = new int[MOST_ROOMS * MOST_ROOMS];
        final int[] next = new int[MOST_ROOMS * MOST_ROOMS];

        void measure(Plan plan) {
            openDoors(plan);
            for (int via = 0; via < plan.rooms; via++) {
                for (int a = 0; a < plan.rooms; a++) {
                    for (int b = 0; b < plan.rooms; b++) {
                        int round = doors[a * MOST_ROOMS + via] + doors[via * MOST_ROOMS + b];
                        doors[a * MOST_ROOMS + b] = Math.min(doors[a * MOST_ROOMS + b], round);
                    }
                }
            }
            for (int a = 0; a < plan.rooms; a++) {
                for (int b = 0; b < plan.rooms; b++) {
                    next[a * MOST_ROOMS + b] = nextRoom(plan, a, b);
                }
            }
        }

        void takeOver(Ways other) {
            System.arraycopy(other.doors, 0, doors, 0, doors.length);
            System.arraycopy(other.next, 0, next, 0, next.length);
        }

        private void openDoors(Plan plan) {
            Arrays.fill(doors, NO_WAY);
            for (int a = 0; a < plan.rooms; a++) {
                doors[a * MOST_ROOMS + a] = 0;
            }
            for (int d = 0; d < plan.doors; d++) {
                doors[plan.doorFrom[d] * MOST_ROOMS + plan.doorTo[d]] = 1;
                if (plan.doorOneWay[d] == 0) {
                    doors[plan.doorTo[d] * MOST_ROOMS + plan.doorFrom[d]] = 1;
                }
            }
        }

        /** A DOOR leads to just the ROOMS that are 1 FAR. */
        private int nextRoom(Plan plan, int from, int to) {
            int best = -1;
            int least = NO_WAY;
            for (int r = 0; r < plan.rooms; r++) {
                if (doors[from * MOST_ROOMS + r] == 1 && doors[r * MOST_ROOMS + to] < least) {
                    least = doors[r * MOST_ROOMS + to];
                    best = r;
                }
            }
            return best;
        }
    }

    /** The VISITORS of a HOUSE as they are, and what a MINUTE does to them. */
    private static final class Crowd {
        private static final int STILL = 0, LOOKED_CLEAR = 1, LOOKED_OVER = 2, WAITED = 3;

        private final Plan plan;
        private final Ways ways;
        int minute;
        int out;
        final int[] group = new int[MOST_VISITORS];
        final int[] place = new int[MOST_VISITORS];
        final int[] patience = new int[MOST_VISITORS];
        final int[] saw = new int[MOST_VISITORS];
        final int[] done = new int[MOST_VISITORS];
        final int[] missed = new int[MOST_VISITORS];
        // kept, not found anew each minute: it changes only with his ROOM and with what he has done with
        final int[] aim = new int[MOST_VISITORS];
        final int[] looked = new int[MOST_VISITORS * MOST_PICTURES];
        final int[] inside = new int[MOST_ROOMS];
        private final int[] latest = new int[MOST_VISITORS];
        private final int[] lookers = new int[MOST_PICTURES];

        Crowd(Plan plan, Ways ways) {
            this.plan = plan;
            this.ways = ways;
        }

        void begin(int doneAtFirst) {
            minute = 0;
            out = 0;
            int v = 0;
            for (int g = 0; g < plan.groups; g++) {
                for (int i = 0; i < plan.groupMany[g] && v < MOST_VISITORS; i++) {
                    group[v] = g;
                    patience[v] = plan.groupPatience[g];
                    v++;
                }
            }
            Arrays.fill(place, TO_COME);
            Arrays.fill(saw, 0);
            Arrays.fill(done, doneAtFirst);
            Arrays.fill(missed, 0);
            Arrays.fill(aim, NO_AIM);
            Arrays.fill(looked, 0);
            Arrays.fill(inside, 0);
            Arrays.fill(latest, STILL);
        }

        void takeOver(Crowd other) {
            minute = other.minute;
            out = other.out;
            System.arraycopy(other.group, 0, group, 0, MOST_VISITORS);
            System.arraycopy(other.place, 0, place, 0, MOST_VISITORS);
            System.arraycopy(other.patience, 0, patience, 0, MOST_VISITORS);
            System.arraycopy(other.saw, 0, saw, 0, MOST_VISITORS);
            System.arraycopy(other.done, 0, done, 0, MOST_VISITORS);
            System.arraycopy(other.missed, 0, missed, 0, MOST_VISITORS);
            System.arraycopy(other.aim, 0, aim, 0, MOST_VISITORS);
            System.arraycopy(other.looked, 0, looked, 0, looked.length);
            System.arraycopy(other.inside, 0, inside, 0, MOST_ROOMS);
            System.arraycopy(other.latest, 0, latest, 0, MOST_VISITORS);
        }

        void passMinute() {
            Arrays.fill(lookers, 0);
            for (int v = 0; v < plan.visitors; v++) {
                latest[v] = STILL;
                if (place[v] == TO_COME) {
                    comeIn(v);
                } else if (place[v] != OUT) {
                    goAbout(v);
                }
            }
            minute++;
        }

        int kindOf(int v) {
            if (place[v] == OUT) {
                return GONE;
            }
            switch (latest[v]) {
                case LOOKED_CLEAR: return CLEAR;
                case LOOKED_OVER: return OVER;
                case WAITED: return WAITING;
                default: return place[v] == TO_COME ? GONE : PASSING;
            }
        }

        int allSaw() {
            int all = 0;
            for (int v = 0; v < plan.visitors; v++) {
                all += saw[v];
            }
            return all;
        }

        int leastSaw() {
            int least = saw[0];
            for (int v = 1; v < plan.visitors; v++) {
                least = Math.min(least, saw[v]);
            }
            return least;
        }

        int allMissed() {
            int all = 0;
            for (int v = 0; v < plan.visitors; v++) {
                all += Integer.bitCount(missed[v]);
            }
            return all;
        }

        private void comeIn(int v) {
            if (plan.groupMinute[group[v]] <= minute && !enter(v, 0)) {
                waitOn(v);
            }
        }

        private void goAbout(int v) {
            int from = place[v];
            if (aim[v] == NO_AIM) {
                inside[from]--;
                leave(v);
                return;
            }
            int doneBefore = done[v];
            int to = plan.pictureRoom[aim[v]];
            if (to == from) {
                lookAt(v, aim[v]);
            } else if (enter(v, ways.next[from * MOST_ROOMS + to])) {
                inside[from]--;
            } else {
                waitOn(v);
            }
            if (done[v] != doneBefore) {
                aim[v] = chooseAim(v);
            }
        }

        private void leave(int v) {
            place[v] = OUT;
            out++;
        }

        private boolean enter(int v, int room) {
            if (!isBelow(room, plan.rooms) || inside[room] >= plan.holds[room]) {
                return false;
            }
            inside[room]++;
            place[v] = room;
            aim[v] = chooseAim(v);
            return true;
        }

        private void lookAt(int v, int p) {
            boolean clear = lookers[p] < plan.rail;
            lookers[p]++;
            latest[v] = clear ? LOOKED_CLEAR : LOOKED_OVER;
            saw[v] += (clear ? 10 : 4) * plan.pictureDraw[p];
            int i = v * MOST_PICTURES + p;
            looked[i]++;
            if (looked[i] >= plan.pictureMinutes[p] || (plan.guard > 0 && looked[i] >= plan.guard)) {
                done[v] |= 1 << p;
            }
        }

        private void waitOn(int v) {
            latest[v] = WAITED;
            if (patience[v] > 0) {
                patience[v]--;
            } else if (place[v] == TO_COME) {
                leave(v);
            } else if (aim[v] != NO_AIM) {
                missed[v] |= 1 << aim[v];
                done[v] |= 1 << aim[v];
            }
        }

        private int chooseAim(int v) {
            int law = plan.groupLaw[group[v]];
            int best = NO_AIM;
            int greatest = 0;
            for (int p = 0; p < plan.pictures; p++) {
                int away = ways.doors[place[v] * MOST_ROOMS + plan.pictureRoom[p]];
                if (away == Ways.NO_WAY || (done[v] >> p & 1) == 1) {
                    continue;
                }
                if (law == ROUND || (law == FIRST && p == 0)) {
                    return p;
                }
                int worth = plan.pictureDraw[p] - 5 * away;
                if (best == NO_AIM || worth > greatest) {
                    best = p;
                    greatest = worth;
                }
            }
            return best;
        }
    }

    /** A HOUSE: how it is told, its ways, and who is in it. */
    private static final class House {
        final Plan plan = new Plan();
        final Ways ways = new Ways();
        final Crowd crowd = new Crowd(plan, ways);

        void takePlan(House other) {
            plan.takeOver(other.plan);
            ways.takeOver(other.ways);
        }

        void takeAll(House other) {
            takePlan(other);
            crowd.takeOver(other.crowd);
        }

        /** SEEN what of a DAY, if all have done with some PICTURES (bits) from the beginning on. */
        int seenInDay(int n, int what, int doneAtFirst) {
            crowd.begin(doneAtFirst);
            // when all are out, no further minute changes what was seen
            for (int m = 0; m < n && crowd.out < plan.visitors; m++) {
                crowd.passMinute();
            }
            switch (what) {
                case 0: return crowd.allSaw();
                case 1: return crowd.leastSaw();
                default: return crowd.allMissed();
            }
        }
    }

    /** ASKS of LOOKS by BODIES, each of which leaves its number in THE TRACE. */
    private static final class Asks {
        // an ask within an ask is the deepest that the document tells of
        private static final int DEEPEST = 4;

        private final Crowd crowd;
        final int[] bodies = new int[MOST_TRACE];
        int traced;

        Asks(Crowd crowd) {
            this.crowd = crowd;
        }

        private int size(int v, int depth) {
            if (depth > DEEPEST) {
                return 0;
            }
            switch (crowd.kindOf(v)) {
                case CLEAR: return body11(v, depth);
                case OVER: return body12(v, depth);
                case PASSING: return body13(v);
                case WAITING: return body14(v);
                default: return body10(v);
            }
        }

        private int mark(int v, int depth) {
            if (depth > DEEPEST) {
                return 0;
            }
            switch (crowd.kindOf(v)) {
                case OVER: return body24(v);
                case PASSING: return body21(v);
                case WAITING: return body22(v);
                case GONE: return body23(v, depth);
                default: return body20(v);
            }
        }

        private void begin(int body) {
            if (traced < MOST_TRACE) {
                bodies[traced] = body;
                traced++;
            }
        }

        private int body10(int v) {
            begin(10);
            return crowd.saw[v];
        }

        private int body11(int v, int depth) {
            begin(11);
            return body10(v) + mark(v, depth + 1);
        }

        private int body12(int v, int depth) {
            begin(12);
            return body10(v) - mark(v, depth + 1);
        }

        private int body13(int v) {
            begin(13);
            return -body10(v);
        }

        private int body14(int v) {
            begin(14);
            return body13(v) - 100;
        }

        private int body20(int v) {
            begin(20);
            return v;
        }

        private int body21(int v) {
            begin(21);
            return body20(v) + 100 * Math.max(0, crowd.place[v]);
        }

        private int body22(int v) {
            begin(22);
            return body21(v) + crowd.patience[v];
        }

        private int body23(int v, int depth) {
            begin(23);
            return body20(v) + size(v, depth + 1);
        }

        private int body24(int v) {
            begin(24);
            return body20(v) + 1000;
        }
    }
}
