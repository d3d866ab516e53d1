/**
 * Bars of a piece, each with so much right and so much wrong in the fingers: what playings add,
 * what nights take off and bring back, and what follows for plans, lessons and what was heard.
 *
 * <p>All rows are made with the object and used again: no call makes anything.
 */
public final class PractisedWrong {
    public static final int BAD = -1, NOT = -2, FULL = -3, STATE = -5, VOID = -2000000000;

    private static final int NOTHING_THERE = -11;
    private static final int OTHER_KIND = -12;
    private static final int NO_SUCH_PLACE = -13;
    private static final int SIZE_BELOW_ZERO = -14;

    private static final int BAR_ROOM = 12;
    private static final int MOST_IN_FINGERS = 999;
    private static final int SHELF_ROOM = 6;
    private static final int ROW_ROOM = 60;

    private static final int RIGHT = 0;
    private static final int WRONG = 1;
    private static final int MARKED = 2;
    private static final int FIRST_HABIT = 3;
    private static final int PLAYED_TODAY = 10;
    private static final int RIGHT_TODAY = 11;
    /** The greatest number that each of mend()'s may be told. */
    private static final int[] GREATEST = {999, 999, 1, 99, 99, 12, 9, 99};

    private static final int LED_PLAYINGS = 0;
    private static final int LED_RIGHT = 1;
    private static final int LED_NIGHTS = 2;
    private static final int LED_LESSONS = 3;
    private static final int LED_MOST = 4;
    private static final int LED_ROOM = 5;

    private static final int MILLION = 1000000;

    private final Practice practice = new Practice();
    private final Hands now = practice.now;
    private final Planner planner = new Planner();
    private final Ear ear = new Ear();
    private final Changes changes = new Changes();
    private final Bodies bodies = new Bodies();
    private final Shelf[] shelves = new Shelf[SHELF_ROOM];
    private final int[] ledger = new int[LED_ROOM];
    private final Hands imageHands = new Hands();
    private final int[] imageLedger = new int[LED_ROOM];
    private boolean imageKept = false;

    public PractisedWrong() {
        for (int i = 0; i < SHELF_ROOM; i++) {
            shelves[i] = new Shelf();
        }
    }

    // ---- bars

    public int bar(int right, int wrong) {
        if (outside(right, 0, MOST_IN_FINGERS) || outside(wrong, 0, MOST_IN_FINGERS)) {
            return BAD;
        }
        return now.add(right, wrong);
    }

    public int bars(int shelf, int i, int n) {
        if (noShelf(shelf) || outside(n, 1, BAR_ROOM)) {
            return BAD;
        }
        Shelf from = shelves[shelf];
        if (from.isEmpty()) {
            return 0;
        }
        if (!from.isRowOf(Shelf.SHORTS)) {
            return OTHER_KIND;
        }
        int came = 0;
        // no range is told for the place: where nothing stands, below 0 or behind the end, it ends;
        // tested by length - 1, since place + 1 may wrap
        for (int place = i; came < n && place >= 0 && place < from.length - 1; place += 2) {
            if (bar((int) from.at(place), (int) from.at(place + 1)) < 0) {
                break;
            }
            came++;
        }
        return came;
    }

    public int mend(int number, int what, int v) {
        if (nothingToMend(number, what) || outside(v, 0, GREATEST[what])) {
            return BAD;
        }
        int was = read(number, what);
        if (was != v) {
            write(number, what, v);
            changes.add(number, what, was, v);
        }
        return was;
    }

    public int of(int number, int what) {
        if (what == PLAYED_TODAY || what == RIGHT_TODAY) {
            if (noBar(number)) {
                return BAD;
            }
            return what == PLAYED_TODAY ? now.played[number] : now.cameRight[number];
        }
        return nothingToMend(number, what) ? BAD : read(number, what);
    }

    public int feed(int letter) {
        return outside(letter, 0, 255) ? BAD : practice.law.write(letter);
    }

    public int law() {
        return practice.law.enact();
    }

    public int playing(int bar, int slow, int what) {
        if (noBar(bar) || outside(slow, 0, 1) || outside(what, 0, 1)) {
            return BAD;
        }
        int comes = practice.comes(now, bar, slow);
        return what == 0 ? comes : practice.gives(now, bar, slow, comes);
    }

    // ---- plans

    public int plan(int shelf, int bar, int what) {
        if (noShelf(shelf) || noBar(bar) || outside(what, 0, 1)) {
            return BAD;
        }
        int refusal = refusalOfBytes(shelf);
        if (refusal != 0) {
            return refusal;
        }
        planner.walk(practice, shelves[shelf], ROW_ROOM);
        return what == 0 ? practice.thought.right[bar] : practice.thought.wrong[bar];
    }

    public int came(int shelf, int k) {
        if (noShelf(shelf) || k < 0) {
            return BAD;
        }
        int refusal = refusalOfBytes(shelf);
        if (refusal != 0) {
            return refusal;
        }
        if (k >= shelves[shelf].length) {
            return NOT;
        }
        planner.walk(practice, shelves[shelf], k + 1);
        return planner.counted > k ? planner.latest : NOT;
    }

    public int lesson(int shelf, int what) {
        if (noShelf(shelf) || outside(what, 0, 4)) {
            return BAD;
        }
        int refusal = refusalOfBytes(shelf);
        if (refusal != 0) {
            return refusal;
        }
        planner.walk(practice, shelves[shelf], ROW_ROOM);
        switch (what) {
            case 0: return practice.thought.lessonCount();
            case 1: return practice.thought.lessonBits();
            case 2: return practice.thought.firstSlip();
            case 3: return planner.rightOnes;
            default: return planner.counted;
        }
    }

    public int times(int bar, int slow) {
        if (noBar(bar) || outside(slow, 0, 1)) {
            return BAD;
        }
        return planner.playingsTillRight(practice, bar, slow);
    }

    public int stays(int bar) {
        return noBar(bar) ? BAD : planner.nightsRight(practice, bar);
    }

    public int with(int n, int what) {
        if (outside(n, 0, 60) || outside(what, 0, 2)) {
            return BAD;
        }
        planner.choose(practice, n);
        switch (what) {
            case 0: return Integer.bitCount(planner.chosenBits);
            case 1: return planner.chosenBits;
            default: return planner.chosenPlayings;
        }
    }

    public int spread(int bar, int nd, int day) {
        if (noBar(bar) || nd < 0) {
            return VOID;
        }
        int n = nd / 10;
        int days = nd % 10;
        if (n > 12 || outside(days, 1, 5) || outside(day, -1, days - 1)) {
            return VOID;
        }
        planner.spreadOver(practice, bar, n, days);
        return day < 0 ? planner.bestLead : planner.bestDays[day];
    }

    public int stop(int shelf) {
        if (noShelf(shelf)) {
            return BAD;
        }
        int refusal = refusalOfBytes(shelf);
        return refusal != 0 ? refusal : planner.earliestStop(practice, shelves[shelf]);
    }

    public int finger(int bar, int what) {
        if (noBar(bar) || outside(what, 0, 1)) {
            return VOID;
        }
        int fewer = planner.fewerByNewFinger(practice, bar);
        if (what == 1) {
            return fewer;
        }
        return fewer > 0 ? 1 : 0;
    }

    public int whole(int what) {
        if (outside(what, 0, 1)) {
            return BAD;
        }
        return what == 0 ? planner.runsTillClean(practice) : planner.playingsByBars(practice);
    }

    // ---- odds, what was heard

    public long odds(int bar, int part) {
        if (noBar(bar) || outside(part, 0, 1)) {
            return Long.MIN_VALUE;
        }
        int above = now.right[bar];
        int below = above + now.wrong[bar];
        if (below == 0) {
            return part == 0 ? 1 : 2;
        }
        int divisor = greatestDivisor(above, below);
        if (divisor == 0) {
            return Long.MIN_VALUE;
        }
        return part == 0 ? above / divisor : below / divisor;
    }

    public int all() {
        int likely = MILLION;
        for (int b = 0; b < now.size; b++) {
            int both = now.right[b] + now.wrong[b];
            // a million times 999 still is an int
            likely = both == 0 ? likely / 2 : likely * now.right[b] / both;
        }
        return likely;
    }

    public int judge(int shelf) {
        if (noShelf(shelf)) {
            return BAD;
        }
        int refusal = refusalOfBytes(shelf);
        return refusal != 0 ? refusal : ear.firstUnlike(practice, shelves[shelf]);
    }

    public int wrongFor(int shelf, int bar, int what) {
        if (noShelf(shelf) || noBar(bar) || outside(what, 0, 1)) {
            return BAD;
        }
        int refusal = refusalOfBytes(shelf);
        return refusal != 0 ? refusal : ear.fittingWrong(practice, shelves[shelf], bar, what == 1);
    }

    public int fadesFor(int shelf) {
        if (noShelf(shelf)) {
            return BAD;
        }
        int refusal = refusalOfBytes(shelf);
        return refusal != 0 ? refusal : ear.leastFades(practice, shelves[shelf]);
    }

    public int which(int shelf) {
        if (noShelf(shelf)) {
            return BAD;
        }
        int refusal = refusalOfBytes(shelf);
        return refusal != 0 ? refusal : ear.likeBars(practice, shelves[shelf]);
    }

    public int hearing(int ab, int n, int what) {
        if (ab < 0 || noBar(ab / 100) || noBar(ab % 100) || outside(n, 0, 30) || outside(what, 0, 2)) {
            return VOID;
        }
        ear.hearEachOther(practice, ab / 100, ab % 100, n);
        switch (what) {
            case 0: return practice.thought.lead(0);
            case 1: return practice.thought.lead(1);
            default: return ear.firstBoth;
        }
    }

    public int drawn(int seed, int n, int what) {
        if (outside(n, 1, 30) || outside(what, 0, 1)) {
            return BAD;
        }
        int z = seed;
        int clean = 0;
        int rightOnes = 0;
        for (int l = 0; l < n; l++) {
            int rightNow = 0;
            for (int b = 0; b < now.size; b++) {
                z = z * 1103515245 + 12345;
                rightNow += now.drawnRight(b, z >>> 8);
            }
            rightOnes += rightNow;
            clean += rightNow == now.size ? 1 : 0;
        }
        return what == 0 ? clean : rightOnes;
    }

    // ---- in deed

    public int play(int bar, int slow) {
        if (noBar(bar) || outside(slow, 0, 1)) {
            return BAD;
        }
        int comes = practice.playOnce(now, bar, slow);
        ledger[LED_PLAYINGS]++;
        ledger[LED_RIGHT] += comes;
        return comes;
    }

    public int night() {
        practice.sleepAll(now, practice.fades());
        ledger[LED_NIGHTS]++;
        return ledger[LED_NIGHTS];
    }

    public int thursday() {
        int rightOnes = now.lessonCount();
        ledger[LED_LESSONS]++;
        ledger[LED_MOST] = Math.max(ledger[LED_MOST], rightOnes);
        return rightOnes;
    }

    public int led(int what) {
        return outside(what, 0, LED_ROOM - 1) ? BAD : ledger[what];
    }

    public int image() {
        imageHands.takeAll(now);
        System.arraycopy(ledger, 0, imageLedger, 0, LED_ROOM);
        imageKept = true;
        return ledger[LED_PLAYINGS];
    }

    public int back() {
        if (!imageKept) {
            return STATE;
        }
        now.layBack(imageHands);
        System.arraycopy(imageLedger, 0, ledger, 0, LED_ROOM);
        return ledger[LED_PLAYINGS];
    }

    public int undo() {
        int at = changes.takeBack();
        if (at < 0) {
            return STATE;
        }
        write(changes.number[at], changes.what[at], changes.was[at]);
        return changes.done;
    }

    public int redo() {
        int at = changes.takeAgain();
        if (at < 0) {
            return STATE;
        }
        write(changes.number[at], changes.what[at], changes.became[at]);
        return changes.told - changes.done;
    }

    // ---- acts, shelves

    public int body(int kind) {
        return outside(kind, 0, Bodies.KINDS - 1) ? BAD : bodies.add(kind);
    }

    public int act(int body, int act, int x) {
        return bodies.perform(body, act, x);
    }

    public int trace(int i) {
        return bodies.traced(i);
    }

    public int keep(int shelf, int body) {
        if (noShelf(shelf) || outside(body, -1, bodies.size - 1)) {
            return BAD;
        }
        shelves[shelf].holdBody(body);
        return 1;
    }

    public int row(int shelf, int sort, int n) {
        if (noShelf(shelf) || outside(sort, 0, Shelf.BOOLEANS) || n > ROW_ROOM) {
            return BAD;
        }
        if (n < 0) {
            return SIZE_BELOW_ZERO;
        }
        shelves[shelf].holdRow(sort, n);
        return 1;
    }

    public int put(int shelf, int i, long v) {
        if (noShelf(shelf)) {
            return BAD;
        }
        Shelf to = shelves[shelf];
        int refusal = to.refusalOfPlaces(i, 1);
        if (refusal == 0) {
            to.set(i, v);
        }
        return refusal == 0 ? 1 : refusal;
    }

    public long element(int shelf, int i) {
        if (noShelf(shelf) || shelves[shelf].refusalOfPlaces(i, 1) != 0) {
            return Long.MIN_VALUE;
        }
        return shelves[shelf].at(i);
    }

    public int shift(int shelf, int i, int other, int j, int n) {
        if (noShelf(shelf) || noShelf(other)) {
            return BAD;
        }
        Shelf from = shelves[shelf];
        Shelf to = shelves[other];
        if (from.isEmpty() || to.isEmpty()) {
            return NOTHING_THERE;
        }
        if (!from.isRow() || !to.isRowOf(from.sort)) {
            return OTHER_KIND;
        }
        if (from.refusalOfPlaces(i, n) != 0 || to.refusalOfPlaces(j, n) != 0) {
            return NO_SUCH_PLACE;
        }
        System.arraycopy(from.elements, i, to.elements, j, n);
        return n;
    }

    public int taken(int shelf, int k) {
        if (noShelf(shelf) || outside(k, 0, Bodies.KINDS - 1)) {
            return BAD;
        }
        Shelf from = shelves[shelf];
        if (from.isEmpty()) {
            return NOTHING_THERE;
        }
        int kind = from.isRow() ? -1 : bodies.kindOf(from.kept);
        return Bodies.isUnder(kind, k) ? kind : OTHER_KIND;
    }

    public int count(int what) {
        switch (what) {
            case 0: return now.size;
            case 1: return practice.law.tapeLength;
            case 2: return changes.done;
            case 3: return bodies.size;
            case 4: return bodies.ran;
            default: return BAD;
        }
    }

    // ---- what several calls ask

    private static boolean outside(int v, int least, int greatest) {
        return v < least || v > greatest;
    }

    private boolean noBar(int bar) {
        return outside(bar, 0, now.size - 1);
    }

    private static boolean noShelf(int shelf) {
        return outside(shelf, 0, SHELF_ROOM - 1);
    }

    private boolean nothingToMend(int number, int what) {
        if (outside(what, 0, GREATEST.length - 1)) {
            return true;
        }
        return what < FIRST_HABIT ? noBar(number) : number != 0;
    }

    private int read(int number, int what) {
        switch (what) {
            case RIGHT: return now.right[number];
            case WRONG: return now.wrong[number];
            case MARKED: return now.marked[number];
            default: return practice.habits[what - FIRST_HABIT];
        }
    }

    private void write(int number, int what, int v) {
        switch (what) {
            case RIGHT: now.right[number] = v; break;
            case WRONG: now.wrong[number] = v; break;
            case MARKED: now.marked[number] = v; break;
            default: practice.habits[what - FIRST_HABIT] = v; break;
        }
    }

    /** 0, if a row of bytes stands on the shelf. */
    private int refusalOfBytes(int shelf) {
        Shelf wanted = shelves[shelf];
        if (wanted.isEmpty()) {
            return NOTHING_THERE;
        }
        return wanted.isRowOf(Shelf.BYTES) ? 0 : OTHER_KIND;
    }

    private static int greatestDivisor(int one, int other) {
        int a = other;
        int b = one;
        // both are below 2000: Euclid's way ends within some twenty steps
        for (int step = 0; step < 64 && b != 0; step++) {
            int rest = a % b;
            a = b;
            b = rest;
        }
        return a;
    }

    /** What is in the fingers, bar by bar, and what was played that day. */
    private static final class Hands {
        int size = 0;
        final int[] right = new int[BAR_ROOM];
        final int[] wrong = new int[BAR_ROOM];
        final int[] marked = new int[BAR_ROOM];
        final int[] played = new int[BAR_ROOM];
        final int[] cameRight = new int[BAR_ROOM];

        int add(int rightThere, int wrongThere) {
            if (size >= BAR_ROOM) {
                return FULL;
            }
            right[size] = rightThere;
            wrong[size] = wrongThere;
            size++;
            return size - 1;
        }

        void takeAll(Hands from) {
            size = from.size;
            for (int b = 0; b < size; b++) {
                takeBar(b, from, b);
            }
        }

        void takeBar(int to, Hands from, int bar) {
            marked[to] = from.marked[bar];
            takeFingers(to, from, bar);
        }

        private void takeFingers(int to, Hands from, int bar) {
            right[to] = from.right[bar];
            wrong[to] = from.wrong[bar];
            played[to] = from.played[bar];
            cameRight[to] = from.cameRight[bar];
        }

        /** Marks are on the page, not in the fingers: they stay, and so do bars that came since. */
        void layBack(Hands image) {
            for (int b = 0; b < image.size; b++) {
                takeFingers(b, image, b);
            }
        }

        void learn(int bar, int came, int more) {
            if (came == 1) {
                right[bar] = Math.min(MOST_IN_FINGERS, right[bar] + more);
            } else {
                wrong[bar] = Math.min(MOST_IN_FINGERS, wrong[bar] + more);
            }
        }

        int lead(int bar) {
            return right[bar] - wrong[bar];
        }

        int lessonBits() {
            int bits = 0;
            for (int b = 0; b < size; b++) {
                if (lead(b) > 0) {
                    bits |= 1 << b;
                }
            }
            return bits;
        }

        int lessonCount() {
            return Integer.bitCount(lessonBits());
        }

        int firstSlip() {
            for (int b = 0; b < size; b++) {
                if (lead(b) <= 0) {
                    return b;
                }
            }
            return NOT;
        }

        int drawnRight(int bar, int draw) {
            int both = right[bar] + wrong[bar];
            boolean comes = both == 0 ? draw % 2 < 1 : draw % both < right[bar];
            return comes ? 1 : 0;
        }
    }

    /** How playings and nights change what is in the fingers: now in deed, or in thought. */
    private static final class Practice {
        static final int SLOWLY = 0;
        static final int MARK = 1;
        static final int FADES = 2;
        static final int BACK = 3;
        static final int FINGER = 4;

        private static final int FIRST_SLOW = 20;
        private static final int A_NIGHT = 60;
        private static final int MOST_ADDED = 99;

        final Hands now = new Hands();
        final Hands thought = new Hands();
        final Law law = new Law();
        final int[] habits = {20, 10, 2, 1, 12};
        /** What the law gave for the latest playing. */
        int given = 0;

        int fades() {
            return habits[FADES];
        }

        int comes(Hands hands, int bar, int slow) {
            int help = 0;
            if (slow == 1) {
                help += habits[SLOWLY];
            }
            if (hands.marked[bar] == 1) {
                help += habits[MARK];
            }
            return hands.right[bar] + help > hands.wrong[bar] ? 1 : 0;
        }

        int gives(Hands hands, int bar, int slow, int came) {
            int before = hands.played[bar];
            if (!law.isTold()) {
                return Math.max(1, 6 + 2 * came - 2 * slow - before);
            }
            law.nameAll(hands.right[bar], hands.wrong[bar], came, slow, hands.marked[bar], before);
            return Math.max(0, Math.min(MOST_ADDED, law.workOut()));
        }

        int playOnce(Hands hands, int bar, int slow) {
            int came = comes(hands, bar, slow);
            given = gives(hands, bar, slow, came);
            hands.learn(bar, came, given);
            hands.played[bar]++;
            hands.cameRight[bar] += came;
            return came;
        }

        int wrongByMorning(Hands hands, int bar, int fades) {
            int kept = hands.wrong[bar] - hands.wrong[bar] * fades / 12;
            return Math.min(MOST_IN_FINGERS, kept + habits[BACK] * hands.cameRight[bar] / 2);
        }

        int rightByMorning(Hands hands, int bar, int fades) {
            return hands.right[bar] - hands.right[bar] * fades / 12;
        }

        void sleepOver(Hands hands, int bar, int fades) {
            hands.wrong[bar] = wrongByMorning(hands, bar, fades);
            hands.right[bar] = rightByMorning(hands, bar, fades);
            hands.played[bar] = 0;
            hands.cameRight[bar] = 0;
        }

        void sleepAll(Hands hands, int fades) {
            for (int b = 0; b < hands.size; b++) {
                sleepOver(hands, b, fades);
            }
        }

        /** One byte of a plan: 1 or 0 as it came, NOT for a night, BAD where no plan has it. */
        int step(Hands hands, int code, int fades) {
            if (code == A_NIGHT) {
                sleepAll(hands, fades);
                return NOT;
            }
            int slow = code >= FIRST_SLOW ? 1 : 0;
            int bar = code - FIRST_SLOW * slow;
            return outside(bar, 0, hands.size - 1) ? BAD : playOnce(hands, bar, slow);
        }
    }

    /** The tape, and the law that came from it: codes in the order in which they are worked out. */
    private static final class Law {
        private static final int TAPE_ROOM = 120;
        /** A byte makes one code at most, and each line one more. */
        private static final int CODE_ROOM = 124;
        /** Seven brackets deep, each of five levels may wait with one number. */
        private static final int STACK_ROOM = 64;
        private static final int MOST_OPEN = 6;
        private static final int MOST_DIGITS = 4;

        private static final int LEVEL_OF_COMPARING = 2;
        private static final int LEVEL_OF_OPERANDS = 5;

        /** Codes from 0 on are numbers, from here on names, below 0 what is done. */
        private static final int FIRST_NAME = 10000;
        private static final int OR = -1, AND = -2, LESS = -3, SAME = -4, MORE = -5, ADD = -6, LESSEN = -7;
        private static final int MULTIPLY = -8, DIVIDE = -9, REST = -10, NO = -11, NEGATE = -12;
        private static final int IF = -13, END = -14;

        private final int[] tape = new int[TAPE_ROOM];
        int tapeLength = 0;
        private int place = 0;
        private int[] draft = new int[CODE_ROOM];
        private int draftLength = 0;
        private int[] code = new int[CODE_ROOM];
        private int codeLength = 0;
        private final int[] stack = new int[STACK_ROOM];
        private final int[] names = new int[6];

        int write(int letter) {
            if (tapeLength >= TAPE_ROOM) {
                return FULL;
            }
            tape[tapeLength] = letter;
            tapeLength++;
            return tapeLength;
        }

        int enact() {
            boolean goesOn = readLines();
            tapeLength = 0;
            if (!goesOn) {
                return -100 - place;
            }
            int[] old = code;
            code = draft;
            codeLength = draftLength;
            draft = old;
            return 1;
        }

        // Reading stops at the first byte that does not go on: place then is the fault.

        private boolean readLines() {
            place = 0;
            draftLength = 0;
            for (int line = 0; line <= TAPE_ROOM; line++) {
                if (!readLine()) {
                    return false;
                }
                if (place >= tapeLength) {
                    return true;
                }
                if (peek() != ';') {
                    return false;
                }
                place++;
            }
            return false;
        }

        private boolean readLine() {
            if (!readLevel(0, 0)) {
                return false;
            }
            if (peek() == '?') {
                place++;
                emit(IF);
                if (!readLevel(0, 0)) {
                    return false;
                }
            }
            emit(END);
            return true;
        }

        private boolean readLevel(int level, int open) {
            if (level >= LEVEL_OF_OPERANDS) {
                return readOperand(open);
            }
            if (!readLevel(level + 1, open)) {
                return false;
            }
            int most = level == LEVEL_OF_COMPARING ? 1 : TAPE_ROOM;
            for (int i = 0; i < most; i++) {
                int operation = operationOf(level, peek());
                if (operation == 0) {
                    return true;
                }
                place++;
                if (!readLevel(level + 1, open)) {
                    return false;
                }
                emit(operation);
            }
            return true;
        }

        private boolean readOperand(int open) {
            int letter = peek();
            if (isDigit(letter)) {
                readNumber();
                return true;
            }
            int name = nameOf(letter);
            if (name >= 0) {
                place++;
                emit(FIRST_NAME + name);
                return true;
            }
            if (open >= MOST_OPEN) {
                return false;
            }
            if (letter == '(') {
                return readBracket(open + 1);
            }
            if (letter != '!' && letter != '-') {
                return false;
            }
            place++;
            if (!readOperand(open + 1)) {
                return false;
            }
            emit(letter == '!' ? NO : NEGATE);
            return true;
        }

        private boolean readBracket(int open) {
            place++;
            if (!readLevel(0, open) || peek() != ')') {
                return false;
            }
            place++;
            return true;
        }

        private void readNumber() {
            int number = 0;
            for (int digits = 0; digits < MOST_DIGITS && isDigit(peek()); digits++) {
                number = number * 10 + peek() - '0';
                place++;
            }
            emit(number);
        }

        /** -1 behind the end. */
        private int peek() {
            return place < tapeLength ? tape[place] : -1;
        }

        private void emit(int what) {
            if (draftLength < CODE_ROOM) {
                draft[draftLength] = what;
                draftLength++;
            }
        }

        private static boolean isDigit(int letter) {
            return letter >= '0' && letter <= '9';
        }

        private static int nameOf(int letter) {
            switch (letter) {
                case 'r': return 0;
                case 'w': return 1;
                case 'q': return 2;
                case 's': return 3;
                case 'm': return 4;
                case 'n': return 5;
                default: return -1;
            }
        }

        /** 0, if the letter is none that joins on that level. */
        private static int operationOf(int level, int letter) {
            switch (letter) {
                case '|': return level == 0 ? OR : 0;
                case '&': return level == 1 ? AND : 0;
                case '<': return level == LEVEL_OF_COMPARING ? LESS : 0;
                case '=': return level == LEVEL_OF_COMPARING ? SAME : 0;
                case '>': return level == LEVEL_OF_COMPARING ? MORE : 0;
                case '+': return level == 3 ? ADD : 0;
                case '-': return level == 3 ? LESSEN : 0;
                case '*': return level == 4 ? MULTIPLY : 0;
                case '/': return level == 4 ? DIVIDE : 0;
                case '%': return level == 4 ? REST : 0;
                default: return 0;
            }
        }

        boolean isTold() {
            return codeLength > 0;
        }

        void nameAll(int right, int wrong, int came, int slow, int marked, int before) {
            names[0] = right;
            names[1] = wrong;
            names[2] = came;
            names[3] = slow;
            names[4] = marked;
            names[5] = before;
        }

        /** The worth of the first line that counts, 0 without one, for what was named. */
        int workOut() {
            int top = 0;
            boolean isPassedBy = false;
            for (int at = 0; at < codeLength; at++) {
                int what = code[at];
                if (isPassedBy) {
                    isPassedBy = what != END;
                } else if (what == END) {
                    return top > 0 ? stack[top - 1] : 0;
                } else if (what == IF) {
                    isPassedBy = stack[0] == 0;
                    top = 0;
                } else if (what >= 0 && top < STACK_ROOM) {
                    stack[top] = what < FIRST_NAME ? what : names[what - FIRST_NAME];
                    top++;
                } else if (what == NO && top > 0) {
                    stack[top - 1] = stack[top - 1] == 0 ? 1 : 0;
                } else if (what == NEGATE && top > 0) {
                    stack[top - 1] = -stack[top - 1];
                } else if (top > 1) {
                    top--;
                    stack[top - 1] = joined(what, stack[top - 1], stack[top]);
                }
            }
            return 0;
        }

        private static int joined(int operation, int a, int b) {
            switch (operation) {
                case OR: return a != 0 || b != 0 ? 1 : 0;
                case AND: return a != 0 && b != 0 ? 1 : 0;
                case LESS: return a < b ? 1 : 0;
                case SAME: return a == b ? 1 : 0;
                case MORE: return a > b ? 1 : 0;
                case ADD: return a + b;
                case LESSEN: return a - b;
                case MULTIPLY: return a * b;
                case DIVIDE: return b == 0 ? 0 : a / b;
                case REST: return b == 0 ? 0 : a % b;
                default: return 0;
            }
        }
    }

    /** What would come of playings and nights, tried in thought. */
    private static final class Planner {
        private static final int MOST_TIMES = 99;
        private static final int MOST_NIGHTS = 99;
        private static final int MOST_WITH = 60;
        private static final int MOST_RUNS = 60;
        private static final int NEVER = 1000;
        private static final int DAY_ROOM = 5;

        int counted = 0;
        int rightOnes = 0;
        int latest = NOT;

        private final int[] cost = new int[BAR_ROOM];
        int chosenBits = 0;
        int chosenPlayings = 0;

        private final int[] days = new int[DAY_ROOM];
        private int lastDay = 0;
        final int[] bestDays = new int[DAY_ROOM];
        int bestLead = VOID;

        /** Walks through a plan, at most so many bytes of it. */
        void walk(Practice practice, Shelf plan, int most) {
            practice.thought.takeAll(practice.now);
            counted = 0;
            rightOnes = 0;
            latest = NOT;
            for (int k = 0; k < plan.length && k < most; k++) {
                int came = practice.step(practice.thought, (int) plan.at(k), practice.fades());
                if (came == BAD) {
                    return;
                }
                counted++;
                latest = came;
                rightOnes += came == 1 ? 1 : 0;
            }
        }

        int earliestStop(Practice practice, Shelf plan) {
            walk(practice, plan, ROW_ROOM);
            int wanted = practice.thought.lessonCount();
            int whole = counted;
            practice.thought.takeAll(practice.now);
            for (int k = 0; k < whole; k++) {
                if (practice.thought.lessonCount() >= wanted) {
                    return k;
                }
                practice.step(practice.thought, (int) plan.at(k), practice.fades());
            }
            return whole;
        }

        int playingsTillRight(Practice practice, int bar, int slow) {
            practice.thought.takeBar(bar, practice.now, bar);
            return tillRight(practice, bar, slow);
        }

        private int tillRight(Practice practice, int bar, int slow) {
            for (int k = 0; k <= MOST_TIMES; k++) {
                if (practice.thought.lead(bar) > 0) {
                    return k;
                }
                practice.playOnce(practice.thought, bar, slow);
            }
            return NOT;
        }

        int nightsRight(Practice practice, int bar) {
            practice.thought.takeBar(bar, practice.now, bar);
            if (practice.thought.lead(bar) <= 0) {
                return NOT;
            }
            for (int nights = 0; nights < MOST_NIGHTS; nights++) {
                practice.sleepOver(practice.thought, bar, practice.fades());
                if (practice.thought.lead(bar) <= 0) {
                    return nights;
                }
            }
            return MOST_NIGHTS;
        }

        /** Takes the cheapest bars first, of like ones the lowest number: so the bits are least. */
        void choose(Practice practice, int n) {
            for (int b = 0; b < practice.now.size; b++) {
                cost[b] = playingsForMorning(practice, b);
            }
            chosenBits = 0;
            chosenPlayings = 0;
            for (int round = 0; round < practice.now.size; round++) {
                int b = cheapestLeft(practice.now.size);
                if (b < 0 || chosenPlayings + cost[b] > n) {
                    return;
                }
                chosenBits |= 1 << b;
                chosenPlayings += cost[b];
            }
        }

        private int playingsForMorning(Practice practice, int bar) {
            practice.thought.takeBar(bar, practice.now, bar);
            for (int k = 0; k <= MOST_WITH; k++) {
                int right = practice.rightByMorning(practice.thought, bar, practice.fades());
                if (right > practice.wrongByMorning(practice.thought, bar, practice.fades())) {
                    return k;
                }
                practice.playOnce(practice.thought, bar, 1);
            }
            return NEVER;
        }

        private int cheapestLeft(int size) {
            int best = -1;
            for (int b = 0; b < size; b++) {
                boolean left = (chosenBits >> b & 1) == 0;
                if (left && (best < 0 || cost[b] < cost[best])) {
                    best = b;
                }
            }
            return best;
        }

        void spreadOver(Practice practice, int bar, int n, int dayCount) {
            lastDay = dayCount - 1;
            bestLead = VOID;
            practice.thought.takeBar(0, practice.now, bar);
            tryDay(practice, 0, n);
        }

        /** The bar as each day begins stands in the place of the day's number. */
        private void tryDay(Practice practice, int day, int left) {
            if (day > lastDay || day >= DAY_ROOM) {
                return;
            }
            for (int k = 0; k <= left; k++) {
                if (k > 0) {
                    practice.playOnce(practice.thought, day, 1);
                }
                if (day == lastDay && k < left) {
                    continue;
                }
                days[day] = k;
                practice.thought.takeBar(day + 1, practice.thought, day);
                practice.sleepOver(practice.thought, day + 1, practice.fades());
                if (day == lastDay) {
                    weigh(practice.thought.lead(day + 1));
                } else {
                    tryDay(practice, day + 1, left - k);
                }
            }
        }

        private void weigh(int lead) {
            if (lead > bestLead || lead == bestLead && isLater()) {
                bestLead = lead;
                System.arraycopy(days, 0, bestDays, 0, DAY_ROOM);
            }
        }

        /** Whether more is played on the last day than in the best so far, then on the one ahead. */
        private boolean isLater() {
            for (int day = lastDay; day >= 0; day--) {
                if (days[day] != bestDays[day]) {
                    return days[day] > bestDays[day];
                }
            }
            return false;
        }

        int fewerByNewFinger(Practice practice, int bar) {
            int asItIs = orNever(playingsTillRight(practice, bar, 0));
            practice.thought.takeBar(bar, practice.now, bar);
            practice.thought.right[bar] = 0;
            practice.thought.wrong[bar] = 0;
            return asItIs - practice.habits[Practice.FINGER] - orNever(tillRight(practice, bar, 0));
        }

        private static int orNever(int playings) {
            return playings == NOT ? NEVER : playings;
        }

        int runsTillClean(Practice practice) {
            practice.thought.takeAll(practice.now);
            for (int n = 0; n <= MOST_RUNS; n++) {
                if (practice.thought.firstSlip() == NOT) {
                    return n;
                }
                runThrough(practice);
            }
            return NOT;
        }

        private void runThrough(Practice practice) {
            for (int b = 0; b < practice.thought.size; b++) {
                if (practice.playOnce(practice.thought, b, 0) == 0) {
                    return;
                }
            }
        }

        int playingsByBars(Practice practice) {
            int sum = 0;
            for (int b = 0; b < practice.now.size; b++) {
                int playings = playingsTillRight(practice, b, 0);
                if (playings == NOT) {
                    return NOT;
                }
                sum += playings;
            }
            return sum;
        }
    }

    /** What was heard, held against what would have come. */
    private static final class Ear {
        private static final int MOST_FADES = 12;

        int firstBoth = NOT;

        int firstUnlike(Practice practice, Shelf heard) {
            practice.thought.takeAll(practice.now);
            return unlikeFromThought(practice, heard, practice.fades());
        }

        private int unlikeFromThought(Practice practice, Shelf heard, int fadesTried) {
            for (int k = 0; 2 * k < heard.length; k++) {
                int came = practice.step(practice.thought, (int) heard.at(2 * k), fadesTried);
                boolean told = 2 * k + 1 < heard.length;
                if (came == BAD || told && differs(heard.at(2 * k + 1), came)) {
                    return k;
                }
            }
            return NOT;
        }

        /** A night does not come right or wrong: nothing that was heard of it differs. */
        private static boolean differs(long told, int came) {
            return came != NOT && (told == 0 || told == 1) && told != came;
        }

        int fittingWrong(Practice practice, Shelf heard, int bar, boolean isGreatest) {
            for (int tried = 0; tried <= MOST_IN_FINGERS; tried++) {
                int wrong = isGreatest ? MOST_IN_FINGERS - tried : tried;
                practice.thought.takeAll(practice.now);
                practice.thought.wrong[bar] = wrong;
                if (unlikeFromThought(practice, heard, practice.fades()) == NOT) {
                    return wrong;
                }
            }
            return NOT;
        }

        int leastFades(Practice practice, Shelf heard) {
            for (int tried = 0; tried <= MOST_FADES; tried++) {
                practice.thought.takeAll(practice.now);
                if (unlikeFromThought(practice, heard, tried) == NOT) {
                    return tried;
                }
            }
            return NOT;
        }

        int likeBars(Practice practice, Shelf heard) {
            int bits = 0;
            for (int b = 0; b < practice.now.size; b++) {
                if (mayHaveBeen(practice, b, heard)) {
                    bits |= 1 << b;
                }
            }
            return bits;
        }

        private boolean mayHaveBeen(Practice practice, int bar, Shelf heard) {
            practice.thought.takeBar(bar, practice.now, bar);
            for (int day = 0; day < heard.length; day++) {
                int came = practice.playOnce(practice.thought, bar, 0);
                if (differs(heard.at(day), came)) {
                    return false;
                }
                practice.sleepOver(practice.thought, bar, practice.fades());
            }
            return true;
        }

        /** The one stands in place 0, the other in 1, since they may have the same bar. */
        void hearEachOther(Practice practice, int a, int b, int n) {
            practice.thought.takeBar(0, practice.now, a);
            practice.thought.takeBar(1, practice.now, b);
            firstBoth = NOT;
            for (int day = 0; day < n; day++) {
                int cameOfA = practice.playOnce(practice.thought, 0, 0);
                int givenToA = practice.given;
                int cameOfB = practice.playOnce(practice.thought, 1, 0);
                int givenToB = practice.given;
                practice.thought.learn(0, cameOfB, givenToB / 2);
                practice.thought.learn(1, cameOfA, givenToA / 2);
                if (firstBoth == NOT && cameOfA == 1 && cameOfB == 1) {
                    firstBoth = day;
                }
                practice.sleepOver(practice.thought, 0, practice.fades());
                practice.sleepOver(practice.thought, 1, practice.fades());
            }
        }
    }

    /** The changes that may be undone, the oldest first, and behind them those undone. */
    private static final class Changes {
        private static final int CHANGE_ROOM = 40;

        final int[] number = new int[CHANGE_ROOM];
        final int[] what = new int[CHANGE_ROOM];
        final int[] was = new int[CHANGE_ROOM];
        final int[] became = new int[CHANGE_ROOM];
        int done = 0;
        int told = 0;

        void add(int numberOf, int whatOf, int before, int after) {
            if (done >= CHANGE_ROOM) {
                forgetOldest();
            }
            number[done] = numberOf;
            what[done] = whatOf;
            was[done] = before;
            became[done] = after;
            done++;
            told = done;
        }

        private void forgetOldest() {
            done = CHANGE_ROOM - 1;
            System.arraycopy(number, 1, number, 0, done);
            System.arraycopy(what, 1, what, 0, done);
            System.arraycopy(was, 1, was, 0, done);
            System.arraycopy(became, 1, became, 0, done);
        }

        /** Where the change stands that is undone now; -1: none. */
        int takeBack() {
            if (done <= 0) {
                return -1;
            }
            done--;
            return done;
        }

        /** Where the change stands that is done again now; -1: none. */
        int takeAgain() {
            if (done >= told) {
                return -1;
            }
            done++;
            return done - 1;
        }
    }

    /** A shelf: it holds nothing, a playing, or a row. */
    private static final class Shelf {
        static final int BYTES = 0;
        static final int SHORTS = 1;
        static final int INTS = 2;
        static final int LONGS = 3;
        static final int BOOLEANS = 4;
        private static final int NO_ROW = -1;

        int kept = -1;
        int sort = NO_ROW;
        int length = 0;
        final long[] elements = new long[ROW_ROOM];

        boolean isEmpty() {
            return kept < 0 && sort == NO_ROW;
        }

        boolean isRow() {
            return sort != NO_ROW;
        }

        boolean isRowOf(int wanted) {
            return isRow() && sort == wanted;
        }

        /** Below 0: nothing is held then. */
        void holdBody(int body) {
            kept = body;
            sort = NO_ROW;
            length = 0;
        }

        void holdRow(int sortOf, int n) {
            kept = -1;
            sort = sortOf;
            length = n;
            for (int i = 0; i < n && i < ROW_ROOM; i++) {
                elements[i] = 0;
            }
        }

        /** 0, if a row is here and has n elements from place i on. */
        int refusalOfPlaces(int i, int n) {
            if (isEmpty()) {
                return NOTHING_THERE;
            }
            if (!isRow()) {
                return OTHER_KIND;
            }
            // by what is left, since i + n may wrap
            return i < 0 || i > length || n < 0 || n > length - i ? NO_SUCH_PLACE : 0;
        }

        long at(int i) {
            return outside(i, 0, length - 1) ? 0 : elements[i];
        }

        void set(int i, long v) {
            if (!outside(i, 0, length - 1)) {
                elements[i] = lowestBits(v);
            }
        }

        private long lowestBits(long v) {
            switch (sort) {
                case BYTES: return (byte) v;
                case SHORTS: return (short) v;
                case INTS: return (int) v;
                case BOOLEANS: return v != 0 ? 1 : 0;
                default: return v;
            }
        }
    }

    /** Playings of kinds, whose acts come from their own kind or from above. */
    private static final class Bodies {
        static final int KINDS = 8;
        private static final int ACTS = 4;
        private static final int BODY_ROOM = 50;
        private static final int TRACE_ROOM = 24;
        private static final int MOST_DEEP = 40;

        private static final int PLAYS = 0;
        private static final int ADDS = 1;
        private static final int FADES = 2;
        private static final int TELLS = 3;

        private static final int[] ABOVE = {-1, 0, 0, 2, 1, 3, 0, 4};
        /** By kinds, then acts: the number of the body there, 0 for none. */
        private static final int[] OWN = {
            1, 10, 11, 2,
            20, 0, 0, 0,
            0, 30, 0, 0,
            0, 41, 40, 0,
            0, 0, 50, 0,
            0, 0, 0, 60,
            70, 0, 0, 0,
            0, 80, 0, 81,
        };

        private final int[] kinds = new int[BODY_ROOM];
        int size = 0;
        private final int[] begun = new int[TRACE_ROOM];
        int ran = 0;
        private int self = 0;

        int add(int kind) {
            if (size >= BODY_ROOM) {
                return FULL;
            }
            kinds[size] = kind;
            size++;
            return size - 1;
        }

        /** -1: no such body. */
        int kindOf(int body) {
            return outside(body, 0, size - 1) ? -1 : kinds[body];
        }

        static boolean isUnder(int kind, int upper) {
            int at = kind;
            for (int up = 0; up < KINDS && !outside(at, 0, KINDS - 1); up++) {
                if (at == upper) {
                    return true;
                }
                at = ABOVE[at];
            }
            return false;
        }

        int traced(int i) {
            return outside(i, 0, Math.min(ran, TRACE_ROOM) - 1) ? BAD : begun[i];
        }

        int perform(int body, int act, int x) {
            ran = 0;
            if (kindOf(body) < 0 || outside(act, 0, ACTS - 1)) {
                return 0;
            }
            self = body;
            return run(kinds[body], act, x, 0);
        }

        /** The next kind from this one on upward that has a body of the act; -1: none. */
        private static int holder(int kind, int act) {
            int at = kind;
            for (int up = 0; up < KINDS && !outside(at, 0, KINDS - 1); up++) {
                if (OWN[at * ACTS + act] != 0) {
                    return at;
                }
                at = ABOVE[at];
            }
            return -1;
        }

        private int run(int from, int act, int x, int depth) {
            int kind = holder(from, act);
            if (kind < 0 || depth > MOST_DEEP) {
                return 0;
            }
            int number = OWN[kind * ACTS + act];
            note(number);
            int above = ABOVE[kind];
            int own = kinds[self];
            int deeper = depth + 1;
            switch (number) {
                case 1: return x + self;
                case 2: return run(own, ADDS, x, deeper) - run(own, FADES, 1, deeper);
                case 10: return run(own, PLAYS, x, deeper) * 2;
                case 11: return x ^ self;
                case 20: return run(above, PLAYS, x, deeper) + 3;
                case 30: return -run(above, ADDS, x, deeper);
                case 40: return run(above, FADES, x, deeper) * 3;
                case 41: return run(above, ADDS, x + 1, deeper);
                case 50: return run(above, FADES, x, deeper) - run(own, PLAYS, 2, deeper);
                case 60: return run(above, TELLS, x, deeper) ^ 5;
                case 70: return run(above, PLAYS, x, deeper) * 2;
                case 80: return run(above, ADDS, x, deeper) + run(own, FADES, 2, deeper);
                case 81: return run(above, TELLS, x, deeper) - 1;
                default: return 0;
            }
        }

        private void note(int number) {
            if (ran < TRACE_ROOM) {
                begun[ran] = number;
            }
            ran++;
        }
    }
}
