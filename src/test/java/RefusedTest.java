/** Each answer that refuses, each pair of them that can meet in one call, and that nothing has changed behind it. */
public final class RefusedTest {
    private static final int LEAST = Told.LEAST, GREATEST = Told.GREATEST, VOID = Told.VOID;
    private static final int NOTHING = 0, PLAYING = 1, BYTES = 2, SHORTS = 3, LONGS = 4, BOOLEANS = 5;

    private interface Call {
        long on(PractisedWrong x);
    }

    private interface Made {
        PractisedWrong anew();
    }

    private static Made made = RefusedTest::rich;

    private static void says(String words) {
        Told.says(words);
    }

    /** The call answers so, and an object on which it was made is as one on which it was not. */
    private static void refused(String call, long want, Call on) {
        PractisedWrong x = made.anew();
        Told.due(call, on.on(x), want);
        Told.due(call + " changes nothing", state(x, true).equals(state(made.anew(), true)) ? 1 : 0, 1);
    }

    public static void main(String[] args) {
        bars(); barsFromARow(); mendAndOf(); tape(); playing(); plans(); timesAndStays(); withSpreadFinger(); whole();
        oddsAndHearing(); heard(); deeds(); bodies(); actsTraceKeep(); rows(); shifts(); takenAndCount(); nots();
        Told.end("refused");
    }

    /** Something of each: bars, a mark, what was played, a law, a tape, changes, one undone, an image, bodies, a trace, shelves. */
    private static PractisedWrong rich() {
        PractisedWrong x = Told.piece(40, 50, 30, 70, 80, 20);
        x.mend(1, 2, 1);
        x.mend(0, 3, 25);
        x.mend(0, 7, 9);
        x.undo();
        x.play(0, 1);
        x.play(2, 0);
        x.night();
        x.image();
        x.play(1, 0);
        x.thursday();
        Told.tell(x, "q?7-n;3");
        x.feed('r');
        x.feed('+');
        x.feed('w');
        x.body(0);
        x.body(5);
        x.body(7);
        x.act(2, 2, 9);
        x.keep(PLAYING, 1);
        Told.row(x, BYTES, Told.BYTES, 20, 0, 60, 21, 99);
        Told.row(x, SHORTS, Told.SHORTS, 5, 6, 7);
        Told.row(x, LONGS, Told.LONGS, 1L << 40, 2);
        Told.row(x, BOOLEANS, Told.BOOLEANS, 1, 0);
        return x;
    }

    private static PractisedWrong fullBars() {
        PractisedWrong x = rich();
        for (int b = 3; b < 12; b++) {
            x.bar(b, b);
        }
        return x;
    }

    private static PractisedWrong fullTape() {
        PractisedWrong x = rich();
        for (int i = 3; i < 120; i++) {
            x.feed(i % 2 == 1 ? '+' : '1');
        }
        return x;
    }

    private static PractisedWrong fullBodies() {
        PractisedWrong x = rich();
        for (int i = 3; i < 50; i++) {
            x.body(0);
        }
        return x;
    }

    /** What was never changed, and has no image. */
    private static PractisedWrong unchanged() {
        PractisedWrong x = Told.piece(40, 50);
        x.play(0, 0);
        x.night();
        x.play(0, 1);
        return x;
    }

    /** All that can be asked, and what the calls that change then answer, as a text. */
    private static String state(PractisedWrong x, boolean withTrace) {
        StringBuilder b = new StringBuilder();
        fingers(x, b);
        for (int what = 0; what < 5; what++) {
            b.append(what < 4 || withTrace ? x.count(what) : 0).append(' ').append(x.led(what)).append(' ').append(x.of(0, what + 3)).append(' ');
        }
        for (int i = 0; i < 15 && withTrace; i++) {
            b.append(x.trace(i)).append(' ');
        }
        for (int s = 0; s < 6; s++) {
            b.append('\n').append(x.taken(s, 0)).append(' ').append(x.put(s, -1, 0)).append(' ').append(x.bars(s, 60, 1)).append(": ");
            for (int i = 0; i < 6; i++) {
                b.append(x.element(s, i)).append(' ');
            }
            b.append(x.put(s, 0, 0x123456789AL)).append(' ').append(x.element(s, 0));
        }
        b.append("\nredo ").append(x.redo()).append(' ').append(x.of(0, 7)).append(' ').append(x.redo());
        for (int i = 0; i < 4; i++) {
            b.append(" undo ").append(x.undo()).append(' ').append(x.of(0, 7)).append(' ').append(x.of(0, 3)).append(' ').append(x.of(1, 2));
        }
        b.append("\nback ").append(x.back()).append(' ').append(x.led(2)).append('\n');
        fingers(x, b);
        b.append(x.law()).append(' ').append(x.playing(0, 0, 1)).append(' ').append(x.body(6)).append(' ').append(x.act(2, 3, 5));
        return b.toString();
    }

    private static void fingers(PractisedWrong x, StringBuilder b) {
        for (int n = 0; n < Math.min(12, x.count(0) + 1); n++) {
            for (int what : new int[] {0, 1, 2, 10, 11}) {
                b.append(x.of(n, what)).append(' ');
            }
            b.append(x.playing(n, 0, 1)).append(' ').append(x.playing(n, 1, 1)).append('\n');
        }
    }

    private static void bars() {
        says("A BAR: its number. BAD, FULL: 12.");
        made = RefusedTest::rich;
        refused("bar(-1, 0)", -1, x -> x.bar(-1, 0));
        refused("bar(0, -1)", -1, x -> x.bar(0, -1));
        refused("bar(1000, 0)", -1, x -> x.bar(1000, 0));
        refused("bar(0, 1000)", -1, x -> x.bar(0, 1000));
        made = RefusedTest::fullBars;
        refused("bar when full", -3, x -> x.bar(0, 0));
        refused("BAD ahead of FULL", -1, x -> x.bar(1000, 0));
        refused("BAD ahead of FULL", -1, x -> x.bar(0, -1));
    }

    private static void barsFromARow() {
        says("BAD, -12 (no ROW of shorts; a SHELF that holds nothing is missing).");
        made = RefusedTest::rich;
        refused("bad shelf", -1, x -> x.bars(6, 0, 1));
        refused("bad n", -1, x -> x.bars(SHORTS, 0, 0));
        refused("bad n", -1, x -> x.bars(SHORTS, 0, 13));
        refused("bad n ahead of what is missing", -1, x -> x.bars(NOTHING, 0, 13));
        refused("bad n ahead of -12", -1, x -> x.bars(BYTES, 0, 0));
        refused("bad n ahead of -12", -1, x -> x.bars(PLAYING, 0, 13));
        refused("missing", 0, x -> x.bars(NOTHING, 0, 1));
        refused("a playing", -12, x -> x.bars(PLAYING, 0, 1));
        refused("bytes", -12, x -> x.bars(BYTES, 0, 1));
        refused("longs", -12, x -> x.bars(LONGS, 0, 1));
        refused("booleans", -12, x -> x.bars(BOOLEANS, 0, 1));
        refused("-12 ahead of a place that is not there", -12, x -> x.bars(BYTES, 60, 1));
        refused("-12 ahead of a place that is not there", -12, x -> x.bars(BYTES, -1, 1));
        refused("at a place that is not there it ends", 0, x -> x.bars(SHORTS, 3, 1));
        refused("at a place that is not there it ends", 0, x -> x.bars(SHORTS, -1, 1));
        refused("within a two it ends", 0, x -> x.bars(SHORTS, 2, 1));
        says("or BARS are FULL: those ahead came");
        made = RefusedTest::fullBars;
        refused("none came", 0, x -> x.bars(SHORTS, 0, 1));
        refused("-12 ahead of that", -12, x -> x.bars(BYTES, 0, 1));
        refused("BAD ahead of that", -1, x -> x.bars(SHORTS, 0, 13));
    }

    private static void mendAndOf() {
        says("becomes v: what it was. BAD.");
        made = RefusedTest::rich;
        for (int what = 0; what < 8; what++) {
            int w = what;
            refused("mend(3, " + w + ", 1)", -1, x -> x.mend(3, w, 1));
            refused("mend(-1, " + w + ", 1)", -1, x -> x.mend(-1, w, 1));
            refused("mend(0, " + w + ", -1)", -1, x -> x.mend(0, w, -1));
            refused("mend(0, " + w + ", 1000)", -1, x -> x.mend(0, w, 1000));
        }
        refused("mend(1, 3, 1)", -1, x -> x.mend(1, 3, 1));
        refused("mend(0, 8, 1)", -1, x -> x.mend(0, 8, 1));
        refused("mend(0, -1, 1)", -1, x -> x.mend(0, -1, 1));
        refused("mend(0, 10, 1)", -1, x -> x.mend(0, 10, 1));
        refused("telling the same number is none", 25, x -> x.mend(0, 3, 25));
        says("of a BAR 10 how many times played, 11 came RIGHT, today. BAD.");
        for (int what : new int[] {-1, 8, 9, 12, LEAST, GREATEST}) {
            refused("of(0, " + what + ")", -1, x -> x.of(0, what));
        }
        for (int what : new int[] {0, 1, 2, 3, 7, 10, 11}) {
            refused("of(3, " + what + ")", -1, x -> x.of(3, what));
            refused("of(-1, " + what + ")", -1, x -> x.of(-1, what));
        }
    }

    private static void tape() {
        says("A byte (0 .. 255) comes to THE TAPE: how many it has. BAD, FULL (120).");
        made = RefusedTest::rich;
        refused("feed(-1)", -1, x -> x.feed(-1));
        refused("feed(256)", -1, x -> x.feed(256));
        made = RefusedTest::fullTape;
        refused("feed when full", -3, x -> x.feed('1'));
        refused("BAD ahead of FULL", -1, x -> x.feed(256));
        refused("BAD ahead of FULL", -1, x -> x.feed(-1));
        says("-100 less its FAULT; THE TAPE is empty then");
        PractisedWrong x = Told.piece(5, 0);
        Told.tell(x, "41");
        Told.due("a fault", Told.tell(x, "9+"), -102);
        Told.due("the tape", x.count(1), 0);
        Told.due("the law stays", x.playing(0, 0, 1), 41);
        Told.due("no change to undo", x.undo(), -5);
    }

    private static void playing() {
        says("A PLAYING now of a BAR, slow or not: how it comes (what 0), what it adds (1). BAD.");
        made = RefusedTest::rich;
        refused("bad bar", -1, x -> x.playing(3, 0, 0));
        refused("bad bar", -1, x -> x.playing(-1, 0, 0));
        refused("bad slow", -1, x -> x.playing(0, 2, 0));
        refused("bad slow", -1, x -> x.playing(0, -1, 0));
        refused("bad what", -1, x -> x.playing(0, 0, 2));
        refused("bad what", -1, x -> x.playing(0, 0, -1));
        refused("a question", 3, x -> x.playing(0, 0, 1));
    }

    private static void plans() {
        made = RefusedTest::rich;
        says("RIGHT (what 0), WRONG (1) of a BAR behind a PLAN. BAD, -11, -12 (no ROW of bytes).");
        for (int s : new int[] {NOTHING, PLAYING, SHORTS, BYTES}) {
            refused("BAD ahead of all: bar", -1, x -> x.plan(s, 3, 0));
            refused("BAD ahead of all: bar", -1, x -> x.plan(s, -1, 0));
            refused("BAD ahead of all: what", -1, x -> x.plan(s, 0, 2));
            refused("BAD ahead of all: what", -1, x -> x.plan(s, 0, -1));
        }
        ofBytes("plan", (x, s) -> x.plan(s, 0, 0));
        says("How the k-th came. BAD, -11, -12; NOT (a NIGHT, or there are not as many).");
        for (int s : new int[] {NOTHING, PLAYING, SHORTS, BYTES}) {
            refused("BAD ahead of all: k", -1, x -> x.came(s, -1));
            refused("BAD ahead of all: k", -1, x -> x.came(s, LEAST));
        }
        ofBytes("came", (x, s) -> x.came(s, 0));
        ofBytes("came, ahead of NOT", (x, s) -> x.came(s, GREATEST));
        refused("a night", -2, x -> x.came(BYTES, 2));
        refused("not as many", -2, x -> x.came(BYTES, 4));
        refused("not as many", -2, x -> x.came(BYTES, GREATEST));
        says("how many PLAYINGS came RIGHT (3), how many bytes count (4). BAD, -11, -12.");
        for (int s : new int[] {NOTHING, PLAYING, SHORTS, BYTES}) {
            refused("BAD ahead of all: what", -1, x -> x.lesson(s, 5));
            refused("BAD ahead of all: what", -1, x -> x.lesson(s, -1));
        }
        ofBytes("lesson", (x, s) -> x.lesson(s, 2));
        says("STOP. BAD, -11, -12.");
        ofBytes("stop", (x, s) -> x.stop(s));
        refused("a question", 2, x -> x.came(BYTES, 0) + x.came(BYTES, 0));
    }

    private interface OfShelf {
        long on(PractisedWrong x, int shelf);
    }

    /** What each call refuses that wants a row of bytes. */
    private static void ofBytes(String call, OfShelf on) {
        for (int s : new int[] {-1, 6, LEAST, GREATEST}) {
            refused(call + " of shelf " + s, -1, x -> on.on(x, s));
        }
        refused(call + " of nothing", -11, x -> on.on(x, NOTHING));
        for (int s : new int[] {PLAYING, SHORTS, LONGS, BOOLEANS}) {
            refused(call + " of shelf " + s, -12, x -> on.on(x, s));
        }
        refused(call + " of ints", -12, x -> {
            // laid back as it was, so that nothing else differs
            x.row(NOTHING, Told.INTS, 0);
            long answer = on.on(x, NOTHING);
            x.keep(NOTHING, -1);
            return answer;
        });
    }

    private static void timesAndStays() {
        made = RefusedTest::rich;
        says("TIMES. BAD; NOT.");
        refused("bad bar", -1, x -> x.times(3, 0));
        refused("bad bar", -1, x -> x.times(-1, 1));
        refused("bad slow", -1, x -> x.times(0, 2));
        refused("never", -2, x -> x.times(1, 0));
        refused("BAD ahead of NOT", -1, x -> x.times(1, -1));
        refused("now", 0, x -> x.times(2, 0));
        says("STAYS. BAD; NOT.");
        refused("bad bar", -1, x -> x.stays(3));
        refused("bad bar", -1, x -> x.stays(-1));
        refused("not even now", -2, x -> x.stays(1));
    }

    private static void withSpreadFinger() {
        made = RefusedTest::rich;
        says("WITH: how many (what 0), which (1), how many PLAYINGS (2). BAD.");
        refused("bad n", -1, x -> x.with(61, 0));
        refused("bad n", -1, x -> x.with(-1, 0));
        refused("bad what", -1, x -> x.with(9, 3));
        refused("bad what", -1, x -> x.with(9, -1));
        refused("a question", 1, x -> x.with(0, 0));
        says("SPREAD (nd: 10 n and d): that (day -1), how many on a day (0 on). VOID: BAD.");
        for (int nd : new int[] {-1, 0, 10, 6, 126, 131, LEAST, GREATEST}) {
            refused("spread of " + nd, VOID, x -> x.spread(0, nd, -1));
        }
        refused("bad bar", VOID, x -> x.spread(3, 11, -1));
        refused("bad bar", VOID, x -> x.spread(-1, 11, -1));
        refused("bad day", VOID, x -> x.spread(0, 12, 2));
        refused("bad day", VOID, x -> x.spread(0, 12, -2));
        refused("a question", 5, x -> x.spread(0, 52, 0) + x.spread(0, 52, 1));
        says("NEW FINGER: 1, 0 (what 0), how many fewer (1; below 0: more). VOID: BAD.");
        refused("bad bar", VOID, x -> x.finger(3, 0));
        refused("bad bar", VOID, x -> x.finger(-1, 1));
        refused("bad what", VOID, x -> x.finger(0, 2));
        refused("bad what", VOID, x -> x.finger(0, -1));
        refused("a question", 0, x -> x.finger(2, 0));
    }

    private static void whole() {
        made = RefusedTest::rich;
        says("WHOLE (what 0), BY BARS (1). BAD; NOT.");
        refused("never", -2, x -> x.whole(0));
        refused("never", -2, x -> x.whole(1));
        refused("BAD ahead of NOT", -1, x -> x.whole(2));
        refused("BAD ahead of NOT", -1, x -> x.whole(-1));
    }

    private static void oddsAndHearing() {
        made = RefusedTest::rich;
        says("Long.MIN_VALUE: BAD");
        refused("bad bar", Long.MIN_VALUE, x -> x.odds(3, 0));
        refused("bad bar", Long.MIN_VALUE, x -> x.odds(-1, 1));
        refused("bad part", Long.MIN_VALUE, x -> x.odds(0, 2));
        refused("bad part", Long.MIN_VALUE, x -> x.odds(0, -1));
        says("a (what 0), b (1), the day (2; NOT). VOID: BAD.");
        for (int ab : new int[] {-1, 3, 300, 12, 99, LEAST, GREATEST}) {
            refused("hearing of " + ab, VOID, x -> x.hearing(ab, 1, 0));
        }
        refused("bad n", VOID, x -> x.hearing(1, -1, 0));
        refused("bad n", VOID, x -> x.hearing(1, 31, 0));
        refused("bad what", VOID, x -> x.hearing(1, 1, 3));
        refused("bad what", VOID, x -> x.hearing(1, 1, -1));
        refused("no day", -2, x -> x.hearing(1, 1, 2));
        refused("VOID ahead of NOT", VOID, x -> x.hearing(1, 31, 2));
        refused("VOID ahead of NOT", VOID, x -> x.hearing(3, 1, 2));
        says("DRAWN: LESSONS (what 0), BARS (1). BAD.");
        refused("bad n", -1, x -> x.drawn(1, 0, 0));
        refused("bad n", -1, x -> x.drawn(1, 31, 0));
        refused("bad what", -1, x -> x.drawn(1, 1, 2));
        refused("bad what", -1, x -> x.drawn(1, 1, -1));
        refused("a question", 0, x -> x.drawn(1, 30, 0) < 0 ? 1 : 0);
    }

    private static void heard() {
        made = RefusedTest::rich;
        says("JUDGED. BAD, -11, -12; NOT.");
        ofBytes("judge", (x, s) -> x.judge(s));
        says("WRONG FOR: the least (what 0), the greatest (1). BAD, -11, -12; NOT.");
        for (int s : new int[] {NOTHING, PLAYING, SHORTS, BYTES}) {
            refused("BAD ahead of all: bar", -1, x -> x.wrongFor(s, 3, 0));
            refused("BAD ahead of all: bar", -1, x -> x.wrongFor(s, -1, 0));
            refused("BAD ahead of all: what", -1, x -> x.wrongFor(s, 0, 2));
            refused("BAD ahead of all: what", -1, x -> x.wrongFor(s, 0, -1));
        }
        ofBytes("wrongFor", (x, s) -> x.wrongFor(s, 0, 1));
        refused("none a plan has", -2, x -> x.wrongFor(BYTES, 0, 0));
        says("FADES FOR. BAD, -11, -12; NOT.");
        ofBytes("fadesFor", (x, s) -> x.fadesFor(s));
        refused("none a plan has", -2, x -> x.fadesFor(BYTES));
        says("WHICH BAR: bits. BAD, -11, -12.");
        ofBytes("which", (x, s) -> x.which(s));
    }

    private static void deeds() {
        made = RefusedTest::rich;
        says("PLAY: 1, 0. BAD.");
        refused("bad bar", -1, x -> x.play(3, 0));
        refused("bad bar", -1, x -> x.play(-1, 0));
        refused("bad slow", -1, x -> x.play(0, 2));
        refused("bad slow", -1, x -> x.play(0, -1));
        says("LED: PLAYINGS (what 0), RIGHT ones (1), NIGHTS (2), LESSONS (3), the most (4). BAD.");
        refused("bad", -1, x -> x.led(5));
        refused("bad", -1, x -> x.led(-1));
        made = RefusedTest::unchanged;
        says("It is laid back (BARS that came since stay as they are): PLAYINGS. STATE: there is none.");
        refused("no image", -5, x -> x.back());
        says("UNDONE: how many may still be. STATE: none.");
        refused("no change", -5, x -> x.undo());
        says("DONE AGAIN: how many may still be. STATE: none.");
        refused("no change", -5, x -> x.redo());
        made = () -> {
            PractisedWrong x = rich();
            x.redo();
            return x;
        };
        refused("none undone", -5, x -> x.redo());
        made = () -> {
            PractisedWrong x = rich();
            x.undo();
            x.undo();
            return x;
        };
        says("UNDONE: how many may still be. STATE: none.");
        refused("all undone", -5, x -> x.undo());
    }

    private static void bodies() {
        says("A PLAYING of a KIND (0 .. 7) is kept: its number. BAD, FULL.");
        made = RefusedTest::rich;
        refused("bad kind", -1, x -> x.body(8));
        refused("bad kind", -1, x -> x.body(-1));
        made = RefusedTest::fullBodies;
        refused("full", -3, x -> x.body(0));
        refused("BAD ahead of FULL", -1, x -> x.body(8));
        refused("BAD ahead of FULL", -1, x -> x.body(-1));
    }

    private static void actsTraceKeep() {
        made = RefusedTest::rich;
        says("An ACT (0 .. 3) of a PLAYING with x. 0, and no TRACE then: no such PLAYING, ACT.");
        int[][] none = {{-1, 0}, {3, 0}, {0, -1}, {0, 4}, {3, 4}, {LEAST, GREATEST}, {GREATEST, LEAST}};
        for (int[] bad : none) {
            PractisedWrong x = rich();
            Told.due("act(" + bad[0] + ", " + bad[1] + ", 7)", x.act(bad[0], bad[1], 7), 0);
            Told.due("none ran", x.count(4), 0);
            Told.due("no trace", x.trace(0), -1);
            Told.due("nothing else changes", state(x, false).equals(state(rich(), false)) ? 1 : 0, 1);
        }
        says("THE TRACE's i-th body. BAD.");
        refused("below", -1, x -> x.trace(-1));
        refused("behind: 50, 11, 20, 1", -1, x -> x.trace(4));
        refused("far behind", -1, x -> x.trace(GREATEST));
        says("A SHELF holds nothing (body -1), or a PLAYING: 1. BAD.");
        for (int s = 0; s <= 5; s++) {
            int shelf = s;
            refused("bad body", -1, x -> x.keep(shelf, 3));
            refused("bad body", -1, x -> x.keep(shelf, -2));
        }
        refused("bad shelf", -1, x -> x.keep(6, 0));
        refused("bad shelf", -1, x -> x.keep(-1, -1));
    }

    private static void rows() {
        made = RefusedTest::rich;
        says("A SHELF holds a ROW: 1. BAD (sort, n above 60); -14.");
        for (int s = 0; s <= 5; s++) {
            int shelf = s;
            refused("bad sort", -1, x -> x.row(shelf, 5, 1));
            refused("bad sort", -1, x -> x.row(shelf, -1, 1));
            refused("too many", -1, x -> x.row(shelf, 0, 61));
            refused("below 0", -14, x -> x.row(shelf, 0, -1));
            refused("BAD sort ahead of -14", -1, x -> x.row(shelf, 5, -1));
            refused("BAD sort ahead of -14", -1, x -> x.row(shelf, -1, LEAST));
        }
        refused("bad shelf", -1, x -> x.row(6, 0, 1));
        refused("BAD shelf ahead of -14", -1, x -> x.row(6, 0, -1));
        refused("BAD shelf ahead of -14", -1, x -> x.row(-1, 0, -1));
        says("Element i of a ROW becomes v: 1. BAD, -11, -12, -13.");
        refused("bad shelf", -1, x -> x.put(6, 0, 1));
        refused("BAD shelf ahead of -13", -1, x -> x.put(-1, -1, 1));
        refused("nothing", -11, x -> x.put(NOTHING, 0, 1));
        refused("-11 ahead of -13", -11, x -> x.put(NOTHING, -1, 1));
        refused("-11 ahead of -13", -11, x -> x.put(NOTHING, GREATEST, 1));
        refused("a playing", -12, x -> x.put(PLAYING, 0, 1));
        refused("-12 ahead of -13", -12, x -> x.put(PLAYING, -1, 1));
        refused("-12 ahead of -13", -12, x -> x.put(PLAYING, GREATEST, 1));
        refused("below", -13, x -> x.put(BYTES, -1, 1));
        refused("behind", -13, x -> x.put(BYTES, 5, 1));
        refused("behind", -13, x -> x.put(SHORTS, 3, 1));
        refused("behind", -13, x -> x.put(LONGS, 2, 1));
        refused("behind", -13, x -> x.put(BOOLEANS, 2, 1));
        says("Element i of a ROW; Long.MIN_VALUE: BAD, -11 to -13.");
        refused("bad shelf", Long.MIN_VALUE, x -> x.element(6, 0));
        refused("nothing", Long.MIN_VALUE, x -> x.element(NOTHING, 0));
        refused("a playing", Long.MIN_VALUE, x -> x.element(PLAYING, 0));
        refused("below", Long.MIN_VALUE, x -> x.element(BYTES, -1));
        refused("behind", Long.MIN_VALUE, x -> x.element(BYTES, 5));
    }

    private static void shifts() {
        made = RefusedTest::rich;
        says("BAD, -11 (either), -12 (no ROWS, or of unlike sorts), -13.");
        int[] bads = {-1, 6, LEAST, GREATEST};
        for (int bad : bads) {
            refused("bad one", -1, x -> x.shift(bad, 0, BYTES, 0, 1));
            refused("bad other", -1, x -> x.shift(BYTES, 0, bad, 0, 1));
            refused("BAD ahead of -11", -1, x -> x.shift(bad, 0, NOTHING, 0, 1));
            refused("BAD ahead of -11", -1, x -> x.shift(NOTHING, 0, bad, 0, 1));
            refused("BAD ahead of -12", -1, x -> x.shift(PLAYING, 0, bad, 0, 1));
            refused("BAD ahead of -12", -1, x -> x.shift(bad, 0, PLAYING, 0, 1));
            refused("BAD ahead of -13", -1, x -> x.shift(BYTES, -1, bad, -1, -1));
            refused("BAD ahead of -13", -1, x -> x.shift(bad, -1, BYTES, -1, -1));
        }
        refused("nothing from", -11, x -> x.shift(NOTHING, 0, BYTES, 0, 1));
        refused("nothing to", -11, x -> x.shift(BYTES, 0, NOTHING, 0, 1));
        refused("nothing to itself", -11, x -> x.shift(NOTHING, 0, NOTHING, 0, 0));
        refused("-11 ahead of -12", -11, x -> x.shift(PLAYING, 0, NOTHING, 0, 1));
        refused("-11 ahead of -12", -11, x -> x.shift(NOTHING, 0, PLAYING, 0, 1));
        refused("-11 ahead of -13", -11, x -> x.shift(BYTES, -1, NOTHING, 0, 1));
        refused("-11 ahead of -13", -11, x -> x.shift(NOTHING, 0, BYTES, 0, -1));
        refused("a playing from", -12, x -> x.shift(PLAYING, 0, BYTES, 0, 1));
        refused("a playing to", -12, x -> x.shift(BYTES, 0, PLAYING, 0, 1));
        refused("a playing to itself", -12, x -> x.shift(PLAYING, 0, PLAYING, 0, 0));
        refused("-12 ahead of -13", -12, x -> x.shift(PLAYING, -1, BYTES, 0, 1));
        refused("-12 ahead of -13", -12, x -> x.shift(BYTES, 0, PLAYING, 0, -1));
        int[] sorts = {BYTES, SHORTS, LONGS, BOOLEANS};
        for (int one : sorts) {
            for (int other : sorts) {
                if (one != other) {
                    refused("unlike sorts", -12, x -> x.shift(one, 0, other, 0, 1));
                    refused("unlike sorts, none of them", -12, x -> x.shift(one, 0, other, 0, 0));
                    refused("-12 ahead of -13: place", -12, x -> x.shift(one, -1, other, 0, 1));
                    refused("-12 ahead of -13: place", -12, x -> x.shift(one, 0, other, 60, 1));
                    refused("-12 ahead of -13: number", -12, x -> x.shift(one, 0, other, 0, -1));
                }
            }
            refused("from below", -13, x -> x.shift(one, -1, one, 0, 1));
            refused("to below", -13, x -> x.shift(one, 0, one, -1, 1));
            refused("below 0 of them", -13, x -> x.shift(one, 0, one, 0, -1));
            refused("too many from", -13, x -> x.shift(one, 1, one, 0, 5));
            refused("too many to", -13, x -> x.shift(one, 0, one, 1, 5));
            refused("behind", -13, x -> x.shift(one, 6, one, 0, 0));
        }
        refused("the whole row to itself", 5, x -> x.shift(BYTES, 0, BYTES, 0, 5));
    }

    private static void takenAndCount() {
        made = RefusedTest::rich;
        says("What a SHELF holds, taken for a PLAYING of KIND k (0 .. 7), or under it: its KIND. BAD, -11, -12.");
        for (int s = 0; s <= 5; s++) {
            int shelf = s;
            refused("BAD kind ahead of all", -1, x -> x.taken(shelf, 8));
            refused("BAD kind ahead of all", -1, x -> x.taken(shelf, -1));
        }
        refused("bad shelf", -1, x -> x.taken(6, 0));
        refused("bad shelf", -1, x -> x.taken(-1, 0));
        refused("nothing", -11, x -> x.taken(NOTHING, 0));
        for (int s = BYTES; s <= BOOLEANS; s++) {
            int shelf = s;
            refused("a row", -12, x -> x.taken(shelf, 0));
        }
        // a LESSON is under NIGHT, MARKED, PLAYING
        int[] kinds = {5, -12, 5, 5, -12, 5, -12, -12};
        for (int k = 0; k < 8; k++) {
            int kind = k;
            refused("taken for " + k, kinds[k], x -> x.taken(PLAYING, kind));
        }
        says("How many: 0 BARS, 1 bytes on THE TAPE, 2 changes that may be UNDONE, 3 BODIES, 4 bodies that ran in the latest act() (all, kept or not). BAD.");
        refused("bad", -1, x -> x.count(5));
        refused("bad", -1, x -> x.count(-1));
        refused("bad", -1, x -> x.count(LEAST));
    }

    private static void nots() {
        says("What is answered so changes nothing.");
        made = RefusedTest::rich;
        refused("a question that is answered", 80, x -> x.all() < 0 ? 0 : x.whole(0) + 82);
        made = () -> Told.lasting(40, 50, 7, 0);
        refused("judge: all is so", -2, x -> ofHeard(x, 0, x.judge(5)));
        refused("times", -2, x -> x.times(0, 0));
        refused("stays", -2, x -> x.stays(0));
        refused("whole", -2, x -> x.whole(0));
        refused("by bars", -2, x -> x.whole(1));
        refused("hearing", -2, x -> x.hearing(1, 30, 2));
    }

    /** A row of one byte is heard, then the shelf is cleared. */
    private static long ofHeard(PractisedWrong x, int heard, long ahead) {
        Told.due("nothing there yet", ahead, -11);
        Told.bytes(x, 5, heard);
        long answer = x.judge(5);
        x.keep(5, -1);
        return answer;
    }
}
