/**
 * Scales on which promises are weighed before they are given. What each call answers is told in
 * the document that README.md names; nothing here throws, refusals and findings are answers.
 */
public final class PromiseScales {
    public static final int NONE = -1000000, BAD = -1000001, STATE = -1000002, FULL = -1000003;

    private static final int NULL = 1, PLACE = 2, KIND = 3, SIZE = 4, STORE = 5;
    private static final int FINDINGS = -1000010, FAULTS = -1000100;
    private static final int GIVERS = 4, PROMISES = 8, IMAGES = 2;
    private static final int MOST_KEEPS = 10, WHOLE = 20, MOST_WAX = 9, MOST_STICK = 5, LAST_DAY = 9;
    private static final int MOST_READ = 200, MOST_VALUE = 999, MOST_SETS = 8, MOST_WEIGHED = 8;
    private static final int PROMISE = 0, PLAIN = 1, IF = 2, TWICE = 3, OATH = 4, ABOUT = 5;
    private static final int UNSETTLED = 0, KEPT = 1, BROKEN = 2;

    private final Rows rows;
    private final Tape tape;
    private final Scales now;
    private final Scales draft;
    private final Scales trial;
    private final Scales[] images;
    private final Acts acts;
    private final Bags sack;
    private final Asks asks;
    private int latestFault;
    private int latestFinding;

    public PromiseScales() {
        rows = new Rows();
        tape = new Tape();
        now = new Scales();
        draft = new Scales();
        trial = new Scales();
        images = new Scales[IMAGES];
        for (int k = 0; k < IMAGES; k++) {
            images[k] = new Scales();
        }
        acts = new Acts();
        sack = new Bags();
        asks = new Asks();
    }

    // ---- rows

    public int row(int row, int lane, int n) {
        if (!isRow(row) || !isWithin(lane, 0, Rows.INTS) || n > Rows.ITEMS) {
            return BAD;
        }
        if (n < 0) {
            return finding(SIZE);
        }
        rows.make(row, lane, n);
        return answered(n);
    }

    public int set(int row, int i, int v) {
        if (!isRow(row)) {
            return BAD;
        }
        int finding = rows.findingOfRun(row, i, 1);
        if (finding != 0) {
            return finding(finding);
        }
        return answered(rows.put(row, i, v));
    }

    public int copy(int a, int i, int b, int j, int n) {
        if (!isRow(a) || !isRow(b)) {
            return BAD;
        }
        int finding = rows.findingOfCopy(a, i, b, j, n);
        if (finding != 0) {
            return finding(finding);
        }
        rows.move(a, i, b, j, n);
        return answered(n);
    }

    public int drop(int row) {
        if (!isRow(row)) {
            return BAD;
        }
        if (rows.isMissing(row)) {
            return finding(NULL);
        }
        return answered(rows.remove(row));
    }

    // ---- scales, acts

    public int feed(int letter) {
        if (!isWithin(letter, 0, 255)) {
            return BAD;
        }
        if (tape.isFull()) {
            return FULL;
        }
        return tape.add(letter);
    }

    public int scales() {
        int fault = tape.readInto(draft);
        if (fault != 0) {
            latestFault = fault;
            return FAULTS - tape.faultPlace();
        }
        now.become(draft);
        acts.forgetAll();
        return now.promises;
    }

    public int fault() {
        return latestFault;
    }

    public int lay(int promise, int is) {
        if (!isPromise(promise) || !isEither(is)) {
            return BAD;
        }
        if (now.isSettled(promise) || now.isLaid(promise) == (is == 1)) {
            return STATE;
        }
        acts.remember(now, promise);
        now.turn(promise);
        return now.readingOf(now.pan);
    }

    public int settle(int promise, int kept) {
        if (!isPromise(promise) || !isEither(kept)) {
            return BAD;
        }
        if (now.isSettled(promise)) {
            return STATE;
        }
        acts.remember(now, promise);
        now.settleOne(promise, kept == 1);
        return now.keeping[now.giverOf[promise]];
    }

    public int wax(int n) {
        if (!now.told) {
            return STATE;
        }
        if (!isWithin(n, 0, MOST_WAX)) {
            return BAD;
        }
        acts.remember(now, Acts.NO_PROMISE);
        int before = now.wax;
        now.wax = n;
        return before;
    }

    public int undo() {
        if (acts.kept == 0) {
            return STATE;
        }
        acts.takeBack(now);
        return acts.kept;
    }

    public int promise(int promise, int what) {
        if (!isPromise(promise)) {
            return BAD;
        }
        switch (what) {
            case 0: return now.giverOf[promise];
            case 1: return now.deedOf[promise];
            case 2: return now.dayOf[promise];
            case 3: return now.likelyOf[promise];
            case 4: return now.weightOf(promise);
            case 5: return now.settledOf[promise];
            case 6: return now.isLaid(promise) ? 1 : 0;
            default: return BAD;
        }
    }

    public int keeps(int giver) {
        return isGiver(giver) ? now.keeping[giver] : BAD;
    }

    public int reads(int set) {
        if (!now.told) {
            return STATE;
        }
        return now.isSet(set) ? now.readingOf(set) : BAD;
    }

    // ---- foretold

    public int clash(int what) {
        if (!now.told) {
            return STATE;
        }
        if (!isEither(what)) {
            return BAD;
        }
        return what == 0 ? now.howManyPairs() : now.firstPair();
    }

    public int bags(int v, int what) {
        if (!now.told) {
            return STATE;
        }
        if (!isWithin(v, 0, MOST_READ) || !isEither(what)) {
            return BAD;
        }
        sack.lookAt(now);
        return what == 0 ? sack.howManyReading(v) : sack.fewestReading(v);
    }

    public int heaviest(int n, int what) {
        if (!now.told) {
            return STATE;
        }
        if (!isWithin(n, 0, PROMISES) || !isEither(what)) {
            return BAD;
        }
        sack.lookAt(now);
        int set = sack.heaviestOf(n);
        return what == 0 ? sack.readingOf(set) : set;
    }

    public int worded(int promise, int kind) {
        if (!isPromise(promise) || !isWithin(kind, 0, ABOUT)) {
            return BAD;
        }
        if (now.isSettled(promise)) {
            return STATE;
        }
        return kind == 0 ? now.bestKindOf(promise) : now.weightBy(promise, kind);
    }

    public int price(int promise, int v) {
        if (!isPromise(promise) || !isWithin(v, 0, MOST_VALUE)) {
            return BAD;
        }
        return v * now.weightOf(promise) / WHOLE;
    }

    public int prices(int giver, int v) {
        if (!isGiver(giver) || !isWithin(v, 0, MOST_VALUE)) {
            return BAD;
        }
        int sum = 0;
        for (int p = 0; p < now.promises; p++) {
            if (now.giverOf[p] == giver && !now.isSettled(p)) {
                sum += v * now.weightOf(p) / WHOLE;
            }
        }
        return sum;
    }

    public int settles(int giver, int h, int what) {
        if (!isGiver(giver) || !isWithin(h, 0, WHOLE) || !isEither(what)) {
            return BAD;
        }
        trial.become(now);
        trial.settleByDays(h);
        return what == 0 ? trial.keeping[giver] : trial.howManyKept(giver);
    }

    public int bestHeavy(int giver) {
        if (!isGiver(giver)) {
            return BAD;
        }
        int best = 0;
        int most = -1;
        // By 0 all are kept, so that nothing beats it; yet all are looked at, as the document tells it.
        for (int h = 0; h <= WHOLE; h++) {
            trial.become(now);
            trial.settleByDays(h);
            if (trial.keeping[giver] > most) {
                most = trial.keeping[giver];
                best = h;
            }
        }
        return best;
    }

    public int found(int row, int i, int n, int what) {
        if (!now.told) {
            return STATE;
        }
        if (!isRow(row) || !isWithin(n, 1, MOST_SETS) || !isEither(what)) {
            return BAD;
        }
        int finding = rows.findingOfRun(row, i, 2 * n);
        if (finding != 0) {
            return finding(finding);
        }
        if (!areSets(rows.items[row], i, n)) {
            return BAD;
        }
        sack.lookAt(now);
        return answered(what == 0 ? waxesFound(rows.items[row], i, n) : sticksFound(rows.items[row], i, n));
    }

    public int keepsFound(int giver, int row, int i) {
        if (!isGiver(giver) || !isRow(row)) {
            return BAD;
        }
        int finding = rows.findingOfRun(row, i, now.howManyPlain(giver));
        if (finding != 0) {
            return finding(finding);
        }
        int found = 0;
        for (int keeps = 0; keeps <= MOST_KEEPS; keeps++) {
            if (now.plainWeigh(giver, keeps, rows.items[row], i)) {
                found |= 1 << keeps;
            }
        }
        return answered(found);
    }

    public int free(int c, int n, int what) {
        if (!isWithin(c, 0, 10) || !isWithin(n, 0, MOST_WEIGHED) || !isEither(what)) {
            return BAD;
        }
        int all = 1;
        int sticking = 1;
        for (int time = 0; time < n; time++) {
            all *= 10;
            sticking *= c;
        }
        int shared = commonDivisor(all, all - sticking);
        int told = what == 0 ? all - sticking : all;
        return shared < 1 ? told : told / shared;
    }

    public int image(int k) {
        if (!isImage(k)) {
            return BAD;
        }
        if (!now.told) {
            return STATE;
        }
        images[k].become(now);
        return 1;
    }

    public int restore(int k) {
        if (!isImage(k)) {
            return BAD;
        }
        if (!images[k].told) {
            return STATE;
        }
        now.become(images[k]);
        acts.forgetAll();
        return 1;
    }

    // ---- asked

    public int kind(int promise) {
        return isPromise(promise) ? now.kindOf[promise] : BAD;
    }

    public int as(int promise, int kind) {
        if (!isPromise(promise) || !isWithin(kind, PROMISE, ABOUT)) {
            return BAD;
        }
        return isOfKind(now.kindOf[promise], kind) ? answered(promise) : finding(KIND);
    }

    public int ask(int promise, int what) {
        if (!isPromise(promise) || !isEither(what)) {
            return BAD;
        }
        asks.turnTo(now, promise);
        return what == 0 ? asks.size() : asks.mark();
    }

    public int trace(int i) {
        return asks.bodyAt(i);
    }

    public int count(int what) {
        switch (what) {
            case 0: return rows.howMany();
            case 1: return now.promises;
            case 2: return now.givers;
            case 3: return now.pan;
            case 4: return now.told ? now.readingOf(now.pan) : 0;
            case 5: return now.wax;
            case 6: return now.stick;
            case 7: return acts.kept;
            case 8: return tape.bytes;
            default: return BAD;
        }
    }

    public int status() {
        return latestFinding;
    }

    // ---- what the calls share

    private int finding(int number) {
        latestFinding = number;
        return FINDINGS - number;
    }

    private int answered(int answer) {
        latestFinding = 0;
        return answer;
    }

    private boolean isPromise(int promise) {
        return promise >= 0 && promise < now.promises;
    }

    private boolean isGiver(int giver) {
        return giver >= 0 && giver < now.givers;
    }

    private static boolean isRow(int row) {
        return isWithin(row, 0, Rows.ROWS - 1);
    }

    private static boolean isImage(int k) {
        return isWithin(k, 0, IMAGES - 1);
    }

    private static boolean isEither(int n) {
        return n == 0 || n == 1;
    }

    private static boolean isWithin(int n, int least, int most) {
        return n >= least && n <= most;
    }

    /** What the scales read, when all that lies on them and the wax come to a total. */
    private static int reading(int total, int stick) {
        return stick < 1 ? total : total - total % stick;
    }

    private static int commonDivisor(int a, int b) {
        int larger = a;
        int lesser = b;
        // Numbers up to 10 to the 8th have no remainder after 40 steps, be they as slow as Fibonacci's.
        for (int step = 0; step < 64 && lesser != 0; step++) {
            int left = larger % lesser;
            larger = lesser;
            lesser = left;
        }
        return larger;
    }

    /** The kind that a kind is, too, nearest to it; below 0 for the one above all others. */
    private static int kindAbove(int kind) {
        switch (kind) {
            case IF:
            case TWICE: return PLAIN;
            case ABOUT: return OATH;
            case PLAIN:
            case OATH: return PROMISE;
            default: return -1;
        }
    }

    private static boolean isOfKind(int own, int asked) {
        int kind = own;
        for (int step = 0; step <= ABOUT && kind >= 0; step++) {
            if (kind == asked) {
                return true;
            }
            kind = kindAbove(kind);
        }
        return false;
    }

    private boolean areSets(int[] items, int i, int n) {
        for (int k = 0; k < n; k++) {
            if (!now.isSet(items[i + 2 * k])) {
                return false;
            }
        }
        return true;
    }

    private int waxesFound(int[] items, int i, int n) {
        int found = 0;
        for (int wax = 0; wax <= MOST_WAX; wax++) {
            if (sack.areRead(items, i, n, wax, now.stick)) {
                found |= 1 << wax;
            }
        }
        return found;
    }

    private int sticksFound(int[] items, int i, int n) {
        int found = 0;
        for (int stick = 1; stick <= MOST_STICK; stick++) {
            if (sack.areRead(items, i, n, now.wax, stick)) {
                found |= 1 << (stick - 1);
            }
        }
        return found;
    }

    /** The rows, each missing or of a lane with some items. */
    private static final class Rows {
        static final int ROWS = 8, ITEMS = 40, BYTES = 0, SHORTS = 1, INTS = 2, MISSING = -1;

        final int[][] items = new int[ROWS][ITEMS];
        final int[] laneOf = new int[ROWS];
        final int[] lengthOf = new int[ROWS];

        Rows() {
            for (int r = 0; r < ROWS; r++) {
                lengthOf[r] = MISSING;
            }
        }

        boolean isMissing(int r) {
            return lengthOf[r] == MISSING;
        }

        int howMany() {
            int there = 0;
            for (int r = 0; r < ROWS; r++) {
                there += isMissing(r) ? 0 : 1;
            }
            return there;
        }

        void make(int r, int lane, int n) {
            laneOf[r] = lane;
            lengthOf[r] = n;
            for (int i = 0; i < ITEMS; i++) {
                items[r][i] = 0;
            }
        }

        int remove(int r) {
            int length = lengthOf[r];
            lengthOf[r] = MISSING;
            return length;
        }

        /** What is found, 0 for nothing, if n items of a row are wanted from place i on. */
        int findingOfRun(int r, int i, int n) {
            if (isMissing(r)) {
                return NULL;
            }
            // Taken off the length, not added to the place: the sum could wrap around.
            return i < 0 || n < 0 || i > lengthOf[r] - n ? PLACE : 0;
        }

        int findingOfCopy(int a, int i, int b, int j, int n) {
            if (isMissing(a) || isMissing(b)) {
                return NULL;
            }
            if (laneOf[a] != laneOf[b]) {
                return STORE;
            }
            int finding = findingOfRun(a, i, n);
            return finding != 0 ? finding : findingOfRun(b, j, n);
        }

        int put(int r, int i, int v) {
            int cut = v;
            if (laneOf[r] == BYTES) {
                cut = (byte) v;
            } else if (laneOf[r] == SHORTS) {
                cut = (short) v;
            }
            items[r][i] = cut;
            return cut;
        }

        void move(int a, int i, int b, int j, int n) {
            System.arraycopy(items[a], i, items[b], j, n);
        }
    }

    /** The tape, and the reading of its tokens; the first fault ends a reading where it stands. */
    private static final class Tape {
        static final int MOST = 120, MOST_FIGURES = 2;
        static final int MISPLACED = 1, MISNUMBERED = 2, NO_ROOM = 3;

        final int[] letters = new int[MOST];
        int bytes;
        private int at;
        private int faultMet;

        boolean isFull() {
            return bytes >= MOST;
        }

        int add(int letter) {
            if (!isFull()) {
                letters[bytes] = letter;
                bytes++;
            }
            return bytes;
        }

        int faultPlace() {
            return at;
        }

        /** Reads all of the tape, which is empty then: the fault's number, 0 for none. */
        int readInto(Scales draft) {
            at = 0;
            faultMet = 0;
            draft.clear();
            readLaw(draft);
            // Each part takes a byte or meets a fault.
            for (int part = 0; part < MOST && faultMet == 0 && at < bytes; part++) {
                readPart(draft, letters[at]);
            }
            bytes = 0;
            return faultMet;
        }

        private void readLaw(Scales draft) {
            takeSign('s');
            draft.wax = takeNumber(0, MOST_WAX);
            takeSign(',');
            draft.stick = takeNumber(1, MOST_STICK);
            takeSign(';');
        }

        private void readPart(Scales draft, int letter) {
            int kind = kindOfSort(letter);
            boolean opensGiver = letter == 'g' && draft.promises == 0;
            if (!opensGiver && kind == 0) {
                meet(MISPLACED);
            } else if (opensGiver ? draft.givers >= GIVERS : draft.promises >= PROMISES) {
                meet(NO_ROOM);
            } else if (opensGiver) {
                readGiver(draft);
            } else {
                readPromise(draft, kind);
            }
        }

        private void readGiver(Scales draft) {
            at++;
            draft.keeping[draft.givers] = takeNumber(0, MOST_KEEPS);
            takeSign(';');
            draft.givers++;
        }

        private void readPromise(Scales draft, int kind) {
            int p = draft.promises;
            at++;
            draft.kindOf[p] = kind;
            draft.giverOf[p] = takeNumber(0, draft.givers - 1);
            takeSign(',');
            draft.deedOf[p] = takeNumber(0, 5);
            takeSign(',');
            draft.dayOf[p] = takeNumber(0, LAST_DAY);
            takeSign(',');
            draft.likelyOf[p] = takeNumber(0, WHOLE);
            takeSign(';');
            draft.promises++;
        }

        private static int kindOfSort(int letter) {
            switch (letter) {
                case 'p': return PLAIN;
                case 'i': return IF;
                case 't': return TWICE;
                case 'o': return OATH;
                case 'm': return ABOUT;
                default: return 0;
            }
        }

        private void takeSign(int sign) {
            if (faultMet != 0) {
                return;
            }
            if (at < bytes && letters[at] == sign) {
                at++;
            } else {
                meet(MISPLACED);
            }
        }

        private int takeNumber(int least, int most) {
            if (faultMet != 0) {
                return 0;
            }
            int figures = figuresFrom(at);
            if (figures < 1 || figures > MOST_FIGURES) {
                meet(MISPLACED);
                return 0;
            }
            int number = 0;
            for (int k = at; k < at + figures; k++) {
                number = 10 * number + letters[k] - '0';
            }
            if (number < least || number > most) {
                meet(MISNUMBERED);
                return 0;
            }
            at += figures;
            return number;
        }

        private int figuresFrom(int place) {
            int end = place;
            while (end < bytes && letters[end] >= '0' && letters[end] <= '9') {
                end++;
            }
            return end - place;
        }

        private void meet(int fault) {
            faultMet = fault;
        }
    }

    /** Law, givers and promises, with all that becomes of them: what an image keeps. */
    private static final class Scales {
        boolean told;
        int wax;
        int stick;
        int givers;
        int promises;
        int pan;
        final int[] keeping = new int[GIVERS];
        final int[] giverOf = new int[PROMISES];
        final int[] deedOf = new int[PROMISES];
        final int[] dayOf = new int[PROMISES];
        final int[] likelyOf = new int[PROMISES];
        final int[] kindOf = new int[PROMISES];
        final int[] settledOf = new int[PROMISES];

        void clear() {
            told = true;
            givers = 0;
            promises = 0;
            pan = 0;
            for (int p = 0; p < PROMISES; p++) {
                settledOf[p] = UNSETTLED;
            }
        }

        void become(Scales other) {
            told = other.told;
            wax = other.wax;
            stick = other.stick;
            givers = other.givers;
            promises = other.promises;
            pan = other.pan;
            for (int g = 0; g < GIVERS; g++) {
                keeping[g] = other.keeping[g];
            }
            for (int p = 0; p < PROMISES; p++) {
                giverOf[p] = other.giverOf[p];
                deedOf[p] = other.deedOf[p];
                dayOf[p] = other.dayOf[p];
                likelyOf[p] = other.likelyOf[p];
                kindOf[p] = other.kindOf[p];
                settledOf[p] = other.settledOf[p];
            }
        }

        boolean isSettled(int p) {
            return settledOf[p] != UNSETTLED;
        }

        boolean isLaid(int p) {
            return (pan >> p & 1) == 1;
        }

        boolean isSet(int set) {
            return set >= 0 && set < 1 << promises;
        }

        void turn(int p) {
            pan ^= 1 << p;
        }

        void settleOne(int p, boolean isKept) {
            int giver = giverOf[p];
            settledOf[p] = isKept ? KEPT : BROKEN;
            pan &= ~(1 << p);
            keeping[giver] = isKept ? Math.min(MOST_KEEPS, keeping[giver] + 1) : Math.max(0, keeping[giver] - 1);
        }

        void settleByDays(int heavy) {
            for (int day = 0; day <= LAST_DAY; day++) {
                for (int p = 0; p < promises; p++) {
                    if (dayOf[p] == day && !isSettled(p)) {
                        settleOne(p, weightOf(p) >= heavy);
                    }
                }
            }
        }

        int howManyKept(int giver) {
            int many = 0;
            for (int p = 0; p < promises; p++) {
                many += giverOf[p] == giver && settledOf[p] == KEPT ? 1 : 0;
            }
            return many;
        }

        int weightOf(int promise) {
            int weight = 0;
            // From the first on: the weight of one can hang on that of the one before it.
            for (int p = 0; p <= promise; p++) {
                weight = weightAfter(p, weight);
            }
            return weight;
        }

        /** What a promise weighs, settled or not, if the one before it weighs so much. */
        int weightAfter(int p, int before) {
            if (isSettled(p)) {
                return settledOf[p] == KEPT ? WHOLE : 0;
            }
            return weightIf(p, kindOf[p], before);
        }

        /** What a promise that is not settled weighs, were it of a kind. */
        int weightBy(int p, int kind) {
            return weightIf(p, kind, p == 0 ? 0 : weightOf(p - 1));
        }

        private int weightIf(int p, int kind, int before) {
            int plain = plainWeight(p, keeping[giverOf[p]]);
            switch (kind) {
                case IF: return p == 0 ? plain : plain * before / WHOLE;
                case TWICE: return (plain + 1) / 2;
                case OATH: return Math.min(WHOLE, 2 * plain);
                case ABOUT: return p == 0 ? WHOLE : WHOLE - before;
                default: return plain;
            }
        }

        private int plainWeight(int p, int keeps) {
            return likelyOf[p] * keeps / MOST_KEEPS;
        }

        int bestKindOf(int p) {
            int best = PLAIN;
            for (int kind = IF; kind <= ABOUT; kind++) {
                if (weightBy(p, kind) > weightBy(p, best)) {
                    best = kind;
                }
            }
            return best;
        }

        int readingOf(int set) {
            int total = wax;
            int weight = 0;
            for (int p = 0; p < promises; p++) {
                weight = weightAfter(p, weight);
                total += (set >> p & 1) == 1 ? weight : 0;
            }
            return reading(total, stick);
        }

        boolean doClash(int p, int q) {
            return !isSettled(p) && !isSettled(q) && giverOf[p] == giverOf[q]
                && dayOf[p] == dayOf[q] && deedOf[p] != deedOf[q];
        }

        int howManyPairs() {
            int many = 0;
            for (int p = 0; p < promises; p++) {
                for (int q = p + 1; q < promises; q++) {
                    many += doClash(p, q) ? 1 : 0;
                }
            }
            return many;
        }

        int firstPair() {
            for (int p = 0; p < promises; p++) {
                for (int q = p + 1; q < promises; q++) {
                    if (doClash(p, q)) {
                        return 8 * p + q;
                    }
                }
            }
            return NONE;
        }

        boolean isPlainToCome(int p, int giver) {
            return giverOf[p] == giver && kindOf[p] == PLAIN && !isSettled(p);
        }

        int howManyPlain(int giver) {
            int many = 0;
            for (int p = 0; p < promises; p++) {
                many += isPlainToCome(p, giver) ? 1 : 0;
            }
            return many;
        }

        /** Whether the plain ones of a giver who kept so many would weigh what is told from a place on. */
        boolean plainWeigh(int giver, int keeps, int[] items, int from) {
            int place = from;
            for (int p = 0; p < promises; p++) {
                if (isPlainToCome(p, giver)) {
                    if (items[place] != plainWeight(p, keeps)) {
                        return false;
                    }
                    place++;
                }
            }
            return true;
        }
    }

    /** The acts that can be undone: of each what was before it, in a ring, the oldest first. */
    private static final class Acts {
        static final int MOST = 24, NO_PROMISE = -1;

        final int[] promiseOf = new int[MOST];
        final int[] waxOf = new int[MOST];
        final int[] panOf = new int[MOST];
        final int[] keepsOf = new int[MOST];
        int oldest;
        int kept;

        void forgetAll() {
            oldest = 0;
            kept = 0;
        }

        void remember(Scales scales, int promise) {
            if (kept == MOST) {
                oldest = (oldest + 1) % MOST;
                kept--;
            }
            int at = (oldest + kept) % MOST;
            promiseOf[at] = promise;
            waxOf[at] = scales.wax;
            panOf[at] = scales.pan;
            if (promise != NO_PROMISE) {
                keepsOf[at] = scales.keeping[scales.giverOf[promise]];
            }
            kept++;
        }

        void takeBack(Scales scales) {
            if (kept == 0) {
                return;
            }
            kept--;
            int at = (oldest + kept) % MOST;
            int promise = promiseOf[at];
            scales.wax = waxOf[at];
            scales.pan = panOf[at];
            if (promise != NO_PROMISE) {
                // One that is settled is in no act any more, so it was not before this one.
                scales.settledOf[promise] = UNSETTLED;
                scales.keeping[scales.giverOf[promise]] = keepsOf[at];
            }
        }
    }

    /** Sets of promises, weighed once a call, for calls that look at many sets. */
    private static final class Bags {
        private final int[] weights = new int[PROMISES];
        private final int[] rivals = new int[PROMISES];
        private int promises;
        private int sets;
        private int wax;
        private int stick;
        private int settled;

        void lookAt(Scales scales) {
            promises = scales.promises;
            sets = 1 << promises;
            wax = scales.wax;
            stick = scales.stick;
            settled = 0;
            int weight = 0;
            for (int p = 0; p < promises; p++) {
                weight = scales.weightAfter(p, weight);
                weights[p] = weight;
                settled |= scales.isSettled(p) ? 1 << p : 0;
                rivals[p] = 0;
                for (int q = 0; q < promises; q++) {
                    rivals[p] |= scales.doClash(p, q) ? 1 << q : 0;
                }
            }
        }

        private int weightOf(int set) {
            int sum = 0;
            for (int p = 0; p < promises; p++) {
                sum += (set >> p & 1) == 1 ? weights[p] : 0;
            }
            return sum;
        }

        int readingOf(int set) {
            return reading(weightOf(set) + wax, stick);
        }

        private boolean isBag(int set) {
            if ((set & settled) != 0) {
                return false;
            }
            for (int p = 0; p < promises; p++) {
                if ((set >> p & 1) == 1 && (set & rivals[p]) != 0) {
                    return false;
                }
            }
            return true;
        }

        int howManyReading(int v) {
            int many = 0;
            for (int set = 0; set < sets; set++) {
                many += isBag(set) && readingOf(set) == v ? 1 : 0;
            }
            return many;
        }

        int fewestReading(int v) {
            int best = NONE;
            int fewest = PROMISES + 1;
            for (int set = 0; set < sets; set++) {
                if (Integer.bitCount(set) < fewest && isBag(set) && readingOf(set) == v) {
                    best = set;
                    fewest = Integer.bitCount(set);
                }
            }
            return best;
        }

        int heaviestOf(int n) {
            int best = 0;
            for (int set = 1; set < sets; set++) {
                if (Integer.bitCount(set) <= n && isBag(set) && readingOf(set) > readingOf(best)) {
                    best = set;
                }
            }
            return best;
        }

        /** Whether n sets, each told with what it reads, are all read so by a wax and a stick. */
        boolean areRead(int[] items, int from, int n, int byWax, int byStick) {
            for (int k = 0; k < n; k++) {
                int place = from + 2 * k;
                if (reading(weightOf(items[place]) + byWax, byStick) != items[place + 1]) {
                    return false;
                }
            }
            return true;
        }
    }

    /**
     * What promises answer when asked, and which bodies begin by it. Plain ones and oaths part ways
     * at once, and a body that takes in what another gives leaves its number ahead of that one's.
     */
    private static final class Asks {
        static final int MOST = 16;

        private final int[] bodies = new int[MOST];
        private int begun;
        private int kind;
        private int number;
        private int likely;
        private int weight;

        /** What is asked from now on is asked of this promise; the trace is empty. */
        void turnTo(Scales scales, int p) {
            begun = 0;
            kind = scales.kindOf[p];
            number = p;
            likely = scales.likelyOf[p];
            weight = scales.weightOf(p);
        }

        int bodyAt(int i) {
            return i >= 0 && i < begun ? bodies[i] : NONE;
        }

        int size() {
            return isOfKind(kind, OATH) ? sizeOfOath() : sizeOfPlain();
        }

        int mark() {
            return isOfKind(kind, OATH) ? markOfOath() : markOfPlain();
        }

        private void enter(int body) {
            if (begun < MOST) {
                bodies[begun] = body;
                begun++;
            }
        }

        private int sizeOfPlain() {
            if (kind == IF) {
                enter(12);
            }
            enter(11);
            enter(10);
            int size = likely + markOfPlain();
            return kind == IF ? -size : size;
        }

        private int markOfPlain() {
            if (kind == IF) {
                enter(24);
            } else if (kind == TWICE) {
                enter(22);
            }
            enter(21);
            enter(20);
            int mark = number + weight;
            if (kind == IF) {
                return 2 * mark;
            }
            return kind == TWICE ? mark - 1000 : mark;
        }

        private int sizeOfOath() {
            if (kind == ABOUT) {
                enter(14);
            }
            enter(13);
            enter(10);
            int size = likely - 100;
            return kind == ABOUT ? 2 * size : size;
        }

        private int markOfOath() {
            enter(23);
            enter(20);
            return number - sizeOfOath();
        }
    }
}
