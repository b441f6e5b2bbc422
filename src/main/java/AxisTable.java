/** An axis moved by a screw that errs: what was measured, the table that mends it, moves by the table, labels. */
public final class AxisTable {
    public static final int NONE = -100000, UNKNOWN = -100001, OUTSIDE = -100002, NOT = -100003, FULL = -100004,
            NULL = -100011, INDEX = -100012, ROOM = -100013, NUMBER = -100014;

    private static final int MOST_POINTS = 8, LEAST_POINTS = 2, FIRST_POINTS = 3;
    private static final int MOST_STEP = 99, LEAST_STEP = 10, FIRST_STEP = 20;
    private static final int WAYS = 2, MOST_RUNS = 6, MOST_ERR = 40;
    private static final int MOST_TEXT = 200, MOST_CLAUSES = 24, MOST_LETTER = 255;
    private static final int LABELS = 3, MOST_LABEL = 24, LEAST_SIGN = 32, MOST_SIGN = 126, MOST_DIGITS = 4;
    private static final int LEAST_COUNT = -200, MOST_COUNT = 2000;
    private static final int UNDOABLE = 8, KEPT = 2;
    /** 8 points of 6 letters and p with its number are 51: this stands well above. */
    private static final int MOST_SHEET = 128;
    /** Means are of 1 to 6 runs: in sixtieths all of them are whole; halves of two of them in their halves. */
    private static final int MEAN_UNIT = 60, SLOPE_UNIT = 120;
    private static final int UP = 0, DOWN = 1, AXIS = 2, AT = 3;
    private static final int TOKEN_END = 0, TOKEN_WORD = 1, TOKEN_NUMBER = 2, TOKEN_SIGN = 3;
    private static final int NO_FAULT = -1, NO_LETTER = -1, NO_NUMBER = -1;

    private final Letters text = new Letters(MOST_TEXT);
    private final Reader reader = new Reader();
    private final Moment now = new Moment();
    private final Past past = new Past();
    private final Moment[] kept = new Moment[KEPT];
    private final boolean[] isKept = new boolean[KEPT];
    private final Figures figures = new Figures();
    private final Measured supposed = new Measured();
    private final Figures supposedFigures = new Figures();
    private final Letters sheetLetters = new Letters(MOST_SHEET);
    private final Letters[] labels = new Letters[LABELS];
    private final boolean[] isThere = new boolean[LABELS];

    public AxisTable() {
        for (int k = 0; k < KEPT; k++) {
            kept[k] = new Moment();
        }
        for (int label = 0; label < LABELS; label++) {
            labels[label] = new Letters(MOST_LABEL);
        }
        reckonAnew();
    }

    // ---- what is told

    public int write(int letter) {
        if (letter < 0 || letter > MOST_LETTER) {
            return OUTSIDE;
        }
        if (!text.hasRoomFor(1)) {
            return FULL;
        }
        text.put(letter);
        return text.size;
    }

    public int erase() {
        int had = text.size;
        text.size = 0;
        return had;
    }

    public int fault() {
        supposed.copyFrom(now.measured);
        return reader.readInto(supposed, text);
    }

    public int axis() {
        supposed.copyFrom(now.measured);
        if (reader.readInto(supposed, text) != NO_FAULT) {
            return NOT;
        }
        now.measured.copyFrom(supposed);
        reckonAnew();
        now.rest(figures.countAt(0));
        past.forgetAll();
        for (int k = 0; k < KEPT; k++) {
            isKept[k] = false;
        }
        for (int label = 0; label < LABELS; label++) {
            isThere[label] = false;
        }
        text.size = 0;
        return reader.clauses;
    }

    // ---- what is measured

    public int run(int point, int way, int err) {
        int refusal = refusalOfRun(point, way, err);
        if (refusal != 0) {
            return refusal;
        }
        past.remember(now);
        int count = now.measured.add(point, way, err);
        reckonAnew();
        return count;
    }

    public int clear(int point, int way) {
        if (!now.measured.hasPoint(point)) {
            return UNKNOWN;
        }
        if (!isWay(way)) {
            return OUTSIDE;
        }
        if (now.measured.countAt(point, way) == 0) {
            return NOT;
        }
        past.remember(now);
        int count = now.measured.forget(point, way);
        reckonAnew();
        return count;
    }

    public int undo() {
        if (past.count == 0) {
            return NOT;
        }
        past.recallInto(now);
        reckonAnew();
        return past.count;
    }

    public int keep(int k) {
        if (k < 0 || k >= KEPT) {
            return UNKNOWN;
        }
        kept[k].copyFrom(now);
        isKept[k] = true;
        return now.place;
    }

    public int back(int k) {
        if (k < 0 || k >= KEPT) {
            return UNKNOWN;
        }
        if (!isKept[k]) {
            return NOT;
        }
        now.copyFrom(kept[k]);
        past.forgetAll();
        reckonAnew();
        return now.place;
    }

    public int runAt(int point, int way, int k) {
        if (!now.measured.hasPoint(point)) {
            return UNKNOWN;
        }
        if (!isWay(way) || k < 0) {
            return OUTSIDE;
        }
        return now.measured.errAt(point, way, k);
    }

    public int point(int point, int what, int part) {
        if (!figures.hasPoint(point)) {
            return UNKNOWN;
        }
        if (what < 0 || what > 6 || !isPart(part)) {
            return OUTSIDE;
        }
        switch (what) {
            case 0:
            case 1:
                return partOf(figures.meanAt(point, what), MEAN_UNIT, part);
            case 2:
                return partOf(figures.slopeAt(point), SLOPE_UNIT, part);
            case 3:
                return partOf(figures.wantedAt(point), SLOPE_UNIT, part);
            case 4:
                return partOf(figures.poolTotalAt(point), SLOPE_UNIT * figures.poolSizeAt(point), part);
            default:
                return partOf(figures.missAt(point, what - 5), MEAN_UNIT, part);
        }
    }

    public int table(int point, int what) {
        if (!figures.hasPoint(point)) {
            return UNKNOWN;
        }
        switch (what) {
            case 0:
                return figures.tableAt(point);
            case 1:
                return figures.poolFirstAt(point);
            case 2:
                return figures.poolSizeAt(point);
            default:
                return OUTSIDE;
        }
    }

    public int play(int part) {
        if (!isPart(part)) {
            return OUTSIDE;
        }
        return partOf(figures.playTotal, MEAN_UNIT * figures.points, part);
    }

    public int worst() {
        return figures.worstSlot();
    }

    public int merged(int point, int way, int err) {
        int refusal = refusalOfRun(point, way, err);
        if (refusal != 0) {
            return refusal;
        }
        supposed.copyFrom(now.measured);
        supposed.add(point, way, err);
        supposedFigures.reckon(supposed);
        return supposedFigures.tableAt(point);
    }

    // ---- moves

    public int move(int x) {
        if (!figures.hasPlace(x)) {
            return OUTSIDE;
        }
        if (x == now.place) {
            return NOT;
        }
        past.remember(now);
        boolean up = x > now.place;
        int count = figures.countAt(x);
        now.go(x, up ? count : count - figures.playCounts, up);
        return now.screw;
    }

    public int countOf(int x) {
        return figures.hasPlace(x) ? figures.countAt(x) : OUTSIDE;
    }

    public int placeOf(int y) {
        if (y < LEAST_COUNT || y > MOST_COUNT) {
            return OUTSIDE;
        }
        return figures.placeAt(y);
    }

    public int told(int what) {
        switch (what) {
            case 0:
                return figures.points;
            case 1:
                return figures.step;
            case 2:
                return figures.playCounts;
            case 3:
                return now.place;
            case 4:
                return now.screw;
            case 5:
                return now.turns;
            case 6:
                return now.travel;
            case 7:
                return now.wentUp ? 1 : 0;
            case 8:
                return now.measured.countOfAll();
            case 9:
                return sheetLetters.size;
            case 10:
                return lettersOfLabels();
            case 11:
                return past.count;
            case 12:
                return text.size;
            default:
                return OUTSIDE;
        }
    }

    public int sheet(int k) {
        if (k < 0) {
            return OUTSIDE;
        }
        return k < sheetLetters.size ? sheetLetters.at(k) : NONE;
    }

    // ---- labels

    public int label(int label) {
        if (!isLabel(label)) {
            return UNKNOWN;
        }
        isThere[label] = true;
        labels[label].size = 0;
        return 0;
    }

    public int insert(int label, int i, int letter) {
        if (!isLabel(label)) {
            return UNKNOWN;
        }
        if (letter < LEAST_SIGN || letter > MOST_SIGN) {
            return OUTSIDE;
        }
        if (!isThere[label]) {
            return NULL;
        }
        if (i < 0 || i > labels[label].size) {
            return INDEX;
        }
        if (!labels[label].hasRoomFor(1)) {
            return ROOM;
        }
        labels[label].putAt(i, letter);
        return labels[label].size;
    }

    public int cut(int label, int i, int j) {
        int refusal = refusalOfLabel(label);
        if (refusal != 0) {
            return refusal;
        }
        if (i < 0 || i > j || j > labels[label].size) {
            return INDEX;
        }
        labels[label].remove(i, j);
        return labels[label].size;
    }

    public int join(int label, int other) {
        int refusal = refusalOfTwo(label, other);
        if (refusal != 0) {
            return refusal;
        }
        if (!labels[label].hasRoomFor(labels[other].size)) {
            return ROOM;
        }
        labels[label].putAll(labels[other]);
        return labels[label].size;
    }

    public int turn(int label) {
        int refusal = refusalOfLabel(label);
        if (refusal != 0) {
            return refusal;
        }
        labels[label].reverse();
        return labels[label].size;
    }

    public int letter(int label, int k) {
        int refusal = refusalOfLabel(label);
        if (refusal != 0) {
            return refusal;
        }
        return k >= 0 && k < labels[label].size ? labels[label].at(k) : INDEX;
    }

    public int compare(int label, int other) {
        int refusal = refusalOfTwo(label, other);
        return refusal != 0 ? refusal : labels[label].orderAgainst(labels[other]);
    }

    public int times(int label) {
        int refusal = refusalOfLabel(label);
        return refusal != 0 ? refusal : sheetLetters.timesOf(labels[label]);
    }

    public int word(int label) {
        int refusal = refusalOfLabel(label);
        return refusal != 0 ? refusal : labels[label].wordIn(0, labels[label].size);
    }

    public int value(int label) {
        int refusal = refusalOfLabel(label);
        if (refusal != 0) {
            return refusal;
        }
        boolean below = labels[label].at(0) == '-';
        int number = labels[label].numberIn(below ? 1 : 0, labels[label].size, MOST_DIGITS);
        if (number == NO_NUMBER) {
            return NUMBER;
        }
        return below ? -number : number;
    }

    public int drop(int label) {
        int refusal = refusalOfLabel(label);
        if (refusal != 0) {
            return refusal;
        }
        isThere[label] = false;
        return labels[label].size;
    }

    // ---- what the calls share

    /** What is reckoned from the runs is held ready, so that calls that only ask make nothing. */
    private void reckonAnew() {
        figures.reckon(now.measured);
        figures.writeOut(sheetLetters);
    }

    private int refusalOfRun(int point, int way, int err) {
        if (!now.measured.hasPoint(point)) {
            return UNKNOWN;
        }
        return isWay(way) && err >= -MOST_ERR && err <= MOST_ERR ? 0 : OUTSIDE;
    }

    private int refusalOfLabel(int label) {
        if (!isLabel(label)) {
            return UNKNOWN;
        }
        return isThere[label] ? 0 : NULL;
    }

    private int refusalOfTwo(int label, int other) {
        if (!isLabel(label) || !isLabel(other)) {
            return UNKNOWN;
        }
        return isThere[label] && isThere[other] ? 0 : NULL;
    }

    private int lettersOfLabels() {
        int sum = 0;
        for (int label = 0; label < LABELS; label++) {
            if (isThere[label]) {
                sum += labels[label].size;
            }
        }
        return sum;
    }

    private static boolean isLabel(int label) {
        return label >= 0 && label < LABELS;
    }

    private static boolean isWay(int way) {
        return way == UP || way == DOWN;
    }

    private static boolean isPart(int part) {
        return part == 0 || part == 1;
    }

    private static int partOf(int above, int below, int part) {
        int shared = greatestDivisor(Math.abs(above), below);
        if (shared < 1) {
            return 0;
        }
        return part == 0 ? above / shared : below / shared;
    }

    private static int greatestDivisor(int one, int other) {
        int a = one;
        int b = other;
        // Euclid's steps on ints are fewer than 50; the counter is there so that the end can be seen.
        for (int round = 0; round < 64 && b != 0; round++) {
            int rest = a % b;
            a = b;
            b = rest;
        }
        return a;
    }

    /** The whole number nearest to a fraction, of two as near the lesser one. */
    private static int nearestLesser(int above, int below) {
        return below < 1 ? 0 : -Math.floorDiv(below - 2 * above, 2 * below);
    }

    private static boolean isDigit(int letter) {
        return letter >= '0' && letter <= '9';
    }

    private static boolean isSmallLetter(int letter) {
        return letter >= 'a' && letter <= 'z';
    }

    /** A row of letters with room for so many; it is made once and used again. */
    private static final class Letters {
        final int[] letters;
        int size = 0;

        Letters(int room) {
            letters = new int[Math.max(room, 0)];
        }

        boolean hasRoomFor(int more) {
            return size + more <= letters.length;
        }

        int at(int k) {
            return k >= 0 && k < size ? letters[k] : NO_LETTER;
        }

        void put(int letter) {
            putAt(size, letter);
        }

        void putAt(int place, int letter) {
            if (place < 0 || place > size || !hasRoomFor(1)) {
                return;
            }
            for (int k = size; k > place; k--) {
                letters[k] = letters[k - 1];
            }
            letters[place] = letter;
            size++;
        }

        void putAll(Letters other) {
            // The other row may be this one: its length is read before it grows.
            int count = other.size;
            for (int k = 0; k < count; k++) {
                put(other.at(k));
            }
        }

        void putNumber(int number) {
            int unit = 1;
            while (unit <= number / 10) {
                unit *= 10;
            }
            for (; unit > 0; unit /= 10) {
                put('0' + number / unit % 10);
            }
        }

        void remove(int from, int to) {
            if (from < 0 || from > to || to > size) {
                return;
            }
            for (int k = to; k < size; k++) {
                letters[from + k - to] = letters[k];
            }
            size -= to - from;
        }

        void reverse() {
            for (int k = 0; k < size / 2; k++) {
                int letter = letters[k];
                letters[k] = letters[size - 1 - k];
                letters[size - 1 - k] = letter;
            }
        }

        /** 0: this row is ahead, 1: they are alike, 2: it is behind. */
        int orderAgainst(Letters other) {
            for (int k = 0; k < size && k < other.size; k++) {
                if (at(k) != other.at(k)) {
                    return at(k) < other.at(k) ? 0 : 2;
                }
            }
            return 1 + Integer.compare(size, other.size);
        }

        int timesOf(Letters other) {
            if (other.size == 0) {
                return 0;
            }
            int count = 0;
            for (int from = 0; from + other.size <= size; from++) {
                if (hasAt(from, other)) {
                    count++;
                }
            }
            return count;
        }

        private boolean hasAt(int from, Letters other) {
            for (int k = 0; k < other.size; k++) {
                if (at(from + k) != other.at(k)) {
                    return false;
                }
            }
            return true;
        }

        int wordIn(int from, int to) {
            if (spells("up", from, to)) {
                return UP;
            }
            if (spells("down", from, to)) {
                return DOWN;
            }
            if (spells("axis", from, to)) {
                return AXIS;
            }
            return spells("at", from, to) ? AT : NONE;
        }

        private boolean spells(String name, int from, int to) {
            if (to - from != name.length()) {
                return false;
            }
            for (int k = 0; k < name.length(); k++) {
                if (at(from + k) != name.charAt(k)) {
                    return false;
                }
            }
            return true;
        }

        int numberIn(int from, int to, int mostDigits) {
            if (to <= from || to - from > mostDigits) {
                return NO_NUMBER;
            }
            int number = 0;
            for (int k = from; k < to; k++) {
                if (!isDigit(at(k))) {
                    return NO_NUMBER;
                }
                number = 10 * number + at(k) - '0';
            }
            return number;
        }
    }

    /** How many points there are, how far apart, and the runs of each point and way, the oldest first. */
    private static final class Measured {
        int points = FIRST_POINTS;
        int step = FIRST_STEP;
        final int[] counts = new int[MOST_POINTS * WAYS];
        final int[] errs = new int[MOST_POINTS * WAYS * MOST_RUNS];

        void begin(int newPoints, int newStep) {
            points = Math.max(LEAST_POINTS, Math.min(newPoints, MOST_POINTS));
            step = Math.max(LEAST_STEP, Math.min(newStep, MOST_STEP));
            for (int slot = 0; slot < counts.length; slot++) {
                counts[slot] = 0;
            }
        }

        boolean hasPoint(int point) {
            return point >= 0 && point < points;
        }

        /** Where a point and way is held; -1: there is no such one. */
        private int slotOf(int point, int way) {
            return point >= 0 && point < points && way >= 0 && way < WAYS ? point * WAYS + way : -1;
        }

        int countAt(int point, int way) {
            int slot = slotOf(point, way);
            return slot < 0 ? 0 : counts[slot];
        }

        int errAt(int point, int way, int k) {
            int slot = slotOf(point, way);
            return slot < 0 || k < 0 || k >= counts[slot] ? NONE : errs[slot * MOST_RUNS + k];
        }

        int add(int point, int way, int err) {
            int slot = slotOf(point, way);
            if (slot < 0) {
                return 0;
            }
            int first = slot * MOST_RUNS;
            if (counts[slot] >= MOST_RUNS) {
                System.arraycopy(errs, first + 1, errs, first, MOST_RUNS - 1);
                counts[slot] = MOST_RUNS - 1;
            }
            errs[first + counts[slot]] = err;
            counts[slot]++;
            return counts[slot];
        }

        int forget(int point, int way) {
            int slot = slotOf(point, way);
            if (slot < 0) {
                return 0;
            }
            int had = counts[slot];
            counts[slot] = 0;
            return had;
        }

        /** The mean of the runs of a point and way, in sixtieths. */
        int meanOf(int point, int way) {
            int count = countAt(point, way);
            if (count == 0) {
                return 0;
            }
            int sum = 0;
            for (int k = 0; k < count; k++) {
                sum += errAt(point, way, k);
            }
            return sum * MEAN_UNIT / count;
        }

        int countOfAll() {
            int sum = 0;
            for (int slot = 0; slot < counts.length; slot++) {
                sum += counts[slot];
            }
            return sum;
        }

        void copyFrom(Measured other) {
            points = other.points;
            step = other.step;
            System.arraycopy(other.counts, 0, counts, 0, counts.length);
            System.arraycopy(other.errs, 0, errs, 0, errs.length);
        }
    }

    /** All that can be kept and undone: what was measured, and where the axis stands. */
    private static final class Moment {
        final Measured measured = new Measured();
        int place = 0;
        int screw = 0;
        int turns = 0;
        int travel = 0;
        boolean wentUp = true;

        void rest(int newScrew) {
            place = 0;
            screw = newScrew;
            turns = 0;
            travel = 0;
            wentUp = true;
        }

        void go(int newPlace, int newScrew, boolean up) {
            if (up != wentUp) {
                turns++;
            }
            travel += Math.abs(newScrew - screw);
            place = newPlace;
            screw = newScrew;
            wentUp = up;
        }

        void copyFrom(Moment other) {
            measured.copyFrom(other.measured);
            place = other.place;
            screw = other.screw;
            turns = other.turns;
            travel = other.travel;
            wentUp = other.wentUp;
        }
    }

    /** The moments that can be undone, in a ring: the newest takes the place of the oldest. */
    private static final class Past {
        final Moment[] moments = new Moment[UNDOABLE];
        int next = 0;
        int count = 0;

        Past() {
            for (int k = 0; k < UNDOABLE; k++) {
                moments[k] = new Moment();
            }
        }

        void remember(Moment moment) {
            moments[next].copyFrom(moment);
            next = (next + 1) % UNDOABLE;
            count = Math.min(count + 1, UNDOABLE);
        }

        void recallInto(Moment moment) {
            if (count == 0) {
                return;
            }
            next = (next + UNDOABLE - 1) % UNDOABLE;
            count--;
            moment.copyFrom(moments[next]);
        }

        void forgetAll() {
            count = 0;
        }
    }

    /** What is reckoned from the runs: means, the play, the pools, the table. */
    private static final class Figures {
        int points = LEAST_POINTS;
        int step = LEAST_STEP;
        final int[] means = new int[MOST_POINTS * WAYS];
        final int[] wanted = new int[MOST_POINTS];
        int pools = 0;
        final int[] firsts = new int[MOST_POINTS];
        final int[] sizes = new int[MOST_POINTS];
        final int[] totals = new int[MOST_POINTS];
        final int[] poolOf = new int[MOST_POINTS];
        final int[] counts = new int[MOST_POINTS];
        int playTotal = 0;
        int playCounts = 0;

        void reckon(Measured measured) {
            points = Math.max(LEAST_POINTS, Math.min(measured.points, MOST_POINTS));
            step = Math.max(LEAST_STEP, measured.step);
            takeMeans(measured);
            takePlay();
            poolWanted();
            makeCounts();
        }

        private void takeMeans(Measured measured) {
            for (int point = 0; point < points; point++) {
                means[point * WAYS + UP] = measured.meanOf(point, UP);
                means[point * WAYS + DOWN] = measured.meanOf(point, DOWN);
                wanted[point] = SLOPE_UNIT * point * step - slopeAt(point);
            }
        }

        private void takePlay() {
            playTotal = 0;
            for (int point = 0; point < points; point++) {
                playTotal += meanAt(point, UP) - meanAt(point, DOWN);
            }
            playCounts = Math.max(0, nearestLesser(playTotal, MEAN_UNIT * points));
        }

        private void poolWanted() {
            pools = 0;
            for (int point = 0; point < points; point++) {
                firsts[pools] = point;
                sizes[pools] = 1;
                totals[pools] = wanted[point];
                pools++;
                while (pools > 1 && lastIsNotMore()) {
                    pools--;
                    sizes[pools - 1] += sizes[pools];
                    totals[pools - 1] += totals[pools];
                }
            }
            for (int pool = 0; pool < pools; pool++) {
                for (int k = 0; k < sizes[pool]; k++) {
                    poolOf[firsts[pool] + k] = pool;
                }
            }
        }

        /** Is the last pool's mean not more than that of the one ahead? Multiplied out, so that it stays whole. */
        private boolean lastIsNotMore() {
            int last = pools - 1;
            return totals[last] * sizes[last - 1] <= totals[last - 1] * sizes[last];
        }

        private void makeCounts() {
            for (int point = 0; point < points; point++) {
                int nearest = nearestLesser(poolTotalAt(point), SLOPE_UNIT * poolSizeAt(point));
                counts[point] = point == 0 ? nearest : Math.max(nearest, counts[point - 1] + 1);
            }
        }

        boolean hasPoint(int point) {
            return point >= 0 && point < points;
        }

        boolean hasPlace(int x) {
            return x >= 0 && x <= (points - 1) * step;
        }

        int meanAt(int point, int way) {
            return hasPoint(point) && isWay(way) ? means[point * WAYS + way] : 0;
        }

        /** In 120ths: the sixtieths of both means together are just that. */
        int slopeAt(int point) {
            return meanAt(point, UP) + meanAt(point, DOWN);
        }

        int wantedAt(int point) {
            return hasPoint(point) ? wanted[point] : 0;
        }

        int poolFirstAt(int point) {
            return hasPoint(point) ? firsts[poolOf[point]] : 0;
        }

        int poolSizeAt(int point) {
            return hasPoint(point) ? sizes[poolOf[point]] : 1;
        }

        int poolTotalAt(int point) {
            return hasPoint(point) ? totals[poolOf[point]] : 0;
        }

        int tableAt(int point) {
            return hasPoint(point) ? counts[point] : 0;
        }

        int offsetAt(int point) {
            return tableAt(point) - point * step;
        }

        /** In sixtieths. */
        int missAt(int point, int way) {
            int whole = offsetAt(point) + (way == DOWN ? playCounts : 0);
            return meanAt(point, way) + MEAN_UNIT * whole;
        }

        int worstSlot() {
            int worstYet = 0;
            int greatest = -1;
            for (int slot = 0; slot < points * WAYS; slot++) {
                int miss = Math.abs(missAt(slot / WAYS, slot % WAYS));
                if (miss > greatest) {
                    greatest = miss;
                    worstYet = slot;
                }
            }
            return worstYet;
        }

        int countAt(int x) {
            if (!hasPlace(x) || step < 1) {
                return 0;
            }
            int point = Math.min(x / step, points - 2);
            int rise = tableAt(point + 1) - tableAt(point);
            return tableAt(point) + Math.floorDiv(rise * (x - point * step), step);
        }

        int placeAt(int y) {
            if (y <= tableAt(0)) {
                return 0;
            }
            for (int point = 0; point < points - 1; point++) {
                int rise = tableAt(point + 1) - tableAt(point);
                if (y <= tableAt(point + 1) && rise > 0) {
                    // The least whole part of the step that makes up the counts still missing: cut upward.
                    int missing = y - tableAt(point);
                    return point * step - Math.floorDiv(-missing * step, rise);
                }
            }
            return NONE;
        }

        void writeOut(Letters row) {
            row.size = 0;
            for (int point = 0; point < points; point++) {
                int offset = offsetAt(point);
                row.putNumber(point);
                row.put(':');
                row.put(offset < 0 ? '-' : '+');
                row.putNumber(Math.abs(offset));
                row.put(';');
            }
            row.put('p');
            row.putNumber(playCounts);
        }
    }

    /** Reads a text into what was measured, up to its first fault. */
    private static final class Reader {
        // A token for each letter at most, and the end.
        final int[] starts = new int[MOST_TEXT + 1];
        final int[] kinds = new int[MOST_TEXT + 1];
        final int[] values = new int[MOST_TEXT + 1];
        int tokens = 0;
        int token = 0;
        int clauses = 0;

        /** The place of the fault, or NO_FAULT; what was read ahead of a fault is in the draft all the same. */
        int readInto(Measured draft, Letters text) {
            partIntoTokens(text);
            token = 0;
            for (clauses = 1; clauses <= MOST_CLAUSES; clauses++) {
                if (!readClause(draft)) {
                    return starts[token];
                }
                if (kinds[token] == TOKEN_END) {
                    return NO_FAULT;
                }
                // Behind the last clause that may be, not even ; can stand.
                if (!isSign(';') || clauses == MOST_CLAUSES) {
                    return starts[token];
                }
                goOn();
            }
            return starts[token];
        }

        private void partIntoTokens(Letters text) {
            tokens = 0;
            int k = 0;
            while (k < text.size) {
                int end = k + 1;
                if (isSmallLetter(text.at(k))) {
                    while (end < text.size && isSmallLetter(text.at(end))) {
                        end++;
                    }
                    addToken(k, TOKEN_WORD, text.wordIn(k, end));
                } else if (isDigit(text.at(k))) {
                    while (end < text.size && isDigit(text.at(end))) {
                        end++;
                    }
                    addToken(k, TOKEN_NUMBER, text.numberIn(k, end, 2));
                } else if (text.at(k) != ' ') {
                    addToken(k, TOKEN_SIGN, text.at(k));
                }
                k = end;
            }
            addToken(text.size, TOKEN_END, 0);
        }

        private void addToken(int start, int kind, int value) {
            if (tokens >= starts.length) {
                return;
            }
            starts[tokens] = start;
            kinds[tokens] = kind;
            values[tokens] = value;
            tokens++;
        }

        /** The end stays the token however often it is gone on. */
        private void goOn() {
            if (token < tokens - 1) {
                token++;
            }
        }

        private boolean isSign(int letter) {
            return kinds[token] == TOKEN_SIGN && values[token] == letter;
        }

        /** False: the token is the fault. So it is with all that reads. */
        private boolean readClause(Measured draft) {
            if (kinds[token] != TOKEN_WORD) {
                return false;
            }
            int name = values[token];
            switch (name) {
                case UP:
                case DOWN:
                    goOn();
                    return readRow(draft, name);
                case AXIS:
                    goOn();
                    return readAxis(draft);
                case AT:
                    goOn();
                    return readOne(draft);
                default:
                    return false;
            }
        }

        private boolean readAxis(Measured draft) {
            int points = readNumber(LEAST_POINTS, MOST_POINTS);
            if (points == NO_NUMBER) {
                return false;
            }
            int step = readNumber(LEAST_STEP, MOST_STEP);
            if (step == NO_NUMBER) {
                return false;
            }
            draft.begin(points, step);
            return true;
        }

        private boolean readRow(Measured draft, int way) {
            for (int point = 0; point < draft.points; point++) {
                if (!readErr(draft, point, way)) {
                    return false;
                }
            }
            return true;
        }

        private boolean readOne(Measured draft) {
            int point = readNumber(0, draft.points - 1);
            if (point == NO_NUMBER) {
                return false;
            }
            int way = values[token];
            if (kinds[token] != TOKEN_WORD || !isWay(way)) {
                return false;
            }
            goOn();
            return readErr(draft, point, way);
        }

        private boolean readErr(Measured draft, int point, int way) {
            boolean below = isSign('-');
            if (below) {
                goOn();
            }
            int err = readNumber(0, MOST_ERR);
            if (err == NO_NUMBER) {
                return false;
            }
            draft.add(point, way, below ? -err : err);
            return true;
        }

        private int readNumber(int least, int most) {
            int number = values[token];
            if (kinds[token] != TOKEN_NUMBER || number < least || number > most) {
                return NO_NUMBER;
            }
            goOn();
            return number;
        }
    }
}
