/** Empty: no bars, no tape, rows of nothing, shelves of nothing, plans that end at once, nothing to undo. */
public final class EmptyTest {
    private static final int VOID = Told.VOID;

    private static void says(String words) {
        Told.says(words);
    }

    private static void due(String call, long got, long want) {
        Told.due(call, got, want);
    }

    public static void main(String[] args) {
        newPiece(); withoutBars(); plansWithoutBars(); tape(); rowOfNone(); shelfOfNothing(); missingRow();
        planThatEnds(); heardThatLacks(); heardOfNone(); noChanges(); noImage(); noTrace(); noDays(); nothingInTheFingers();
        Told.end("empty");
    }

    private static void newPiece() {
        says("A piece without bars.");
        PractisedWrong x = new PractisedWrong();
        int[] habits = {20, 10, 2, 1, 12};
        for (int what = 0; what < 5; what++) {
            due("count(" + what + ")", x.count(what), 0);
            due("led(" + what + ")", x.led(what), 0);
            due("of(0, " + (what + 3) + ")", x.of(0, what + 3), habits[what]);
        }
        due("the first bar", x.bar(1, 2), 0);
        due("not marked", x.of(0, 2), 0);
        due("not played", x.of(0, 10), 0);
        due("not come right", x.of(0, 11), 0);
    }

    private static void withoutBars() {
        PractisedWrong x = new PractisedWrong();
        Told.bytes(x, 0);
        says("BAD (-1): no such number, or it is not as said");
        due("mend", x.mend(0, 0, 1), -1);
        due("of", x.of(0, 0), -1);
        due("of 10", x.of(0, 10), -1);
        due("playing", x.playing(0, 0, 0), -1);
        due("plan", x.plan(0, 0, 0), -1);
        due("times", x.times(0, 0), -1);
        due("stays", x.stays(0), -1);
        due("wrongFor", x.wrongFor(0, 0, 0), -1);
        due("play", x.play(0, 0), -1);
        says("VOID is -2000000000.");
        due("spread", x.spread(0, 11, -1), VOID);
        due("finger", x.finger(0, 0), VOID);
        due("hearing", x.hearing(0, 0, 0), VOID);
        says("part 0 above, 1 below the line; Long.MIN_VALUE: BAD");
        due("odds", x.odds(0, 0), Long.MIN_VALUE);
        says("WITH: how many (what 0), which (1), how many PLAYINGS (2). BAD.");
        for (int what = 0; what < 3; what++) {
            due("with(60, " + what + ")", x.with(60, what), 0);
        }
        says("WHOLE (what 0), BY BARS (1). BAD; NOT.");
        due("without a slip", x.whole(0), 0);
        due("by bars", x.whole(1), 0);
        says("ALL: how likely all are: a million");
        due("all", x.all(), 1000000);
        says("LESSONS without a SLIP; BARS that came RIGHT, all together");
        due("lessons", x.drawn(7, 30, 0), 30);
        due("bars", x.drawn(7, 30, 1), 0);
        says("A LESSON: how many come RIGHT.");
        due("thursday", x.thursday(), 0);
        due("lessons", x.led(3), 1);
        due("the most", x.led(4), 0);
        says("A NIGHT: how many NIGHTS there were.");
        due("night", x.night(), 1);
        due("night", x.night(), 2);
        due("led", x.led(2), 2);
        says("AN IMAGE is kept: PLAYINGS.");
        due("image", x.image(), 0);
        due("back", x.back(), 0);
    }

    private static void plansWithoutBars() {
        PractisedWrong x = new PractisedWrong();
        says("LESSON then: how many BARS come RIGHT, which (bits); the first SLIP (NOT: none); how many PLAYINGS came RIGHT");
        Told.bytes(x, 0, 60, 60, 0, 60);
        int[] want = {0, 0, -2, 0, 2};
        for (int what = 0; what < 5; what++) {
            due("lesson(0, " + what + ")", x.lesson(0, what), want[what]);
        }
        due("a night", x.came(0, 0), -2);
        due("stop", x.stop(0), 0);
        says("JUDGED: the first two that is not so (also one that no PLAN has), from now; NOT.");
        Told.bytes(x, 0, 60, 1, 60, 0);
        due("nights", x.judge(0), -2);
        due("nights", x.fadesFor(0), 0);
        Told.bytes(x, 0, 60, 1, 0, 0);
        due("a bar that is none", x.judge(0), 1);
        due("a bar that is none", x.fadesFor(0), -2);
        says("WHICH BAR: bits.");
        Told.bytes(x, 0, 1, 0);
        due("which", x.which(0), 0);
        Told.bytes(x, 0);
        due("which", x.which(0), 0);
    }

    private static void tape() {
        says("LINES, one or more, parted by ;");
        PractisedWrong x = Told.piece(5, 0);
        due("no byte", x.law(), -100);
        due("the law stays none", x.playing(0, 0, 1), 8);
        Told.tell(x, "41");
        due("no byte", x.law(), -100);
        due("the law stays", x.playing(0, 0, 1), 41);
        due("no line ahead", Told.tell(x, ";1"), -100);
        due("no line between", Told.tell(x, "1;;1"), -102);
        due("no line behind", Told.tell(x, "1;"), -102);
        says("LINE: E, or E ? E (what counts if the first is not 0)");
        due("no first", Told.tell(x, "?1"), -100);
        due("no second", Told.tell(x, "1?"), -102);
        due("no second ahead of ;", Told.tell(x, "1?;2"), -102);
        says("! O, - O, ( E )");
        due("nothing in it", Told.tell(x, "()"), -101);
        due("nothing behind !", Told.tell(x, "!"), -101);
        due("nothing behind -", Told.tell(x, "-"), -101);
        says("THE TAPE becomes THE LAW: 1; -100 less its FAULT; THE TAPE is empty then.");
        due("the tape", x.count(1), 0);
        due("one line", Told.tell(x, "7"), 1);
        due("the tape", x.count(1), 0);
        due("the law", x.playing(0, 0, 1), 7);
        due("the next byte is the first", x.feed('1'), 1);
        says("The first LINE without a first E, or whose first E is not 0, counts; none: 0.");
        x.law();
        due("none counts", Told.tell(x, "0?5;w?6") * 100 + x.playing(0, 0, 1), 100);
    }

    private static void rowOfNone() {
        PractisedWrong x = Told.piece(40, 50, 60, 50);
        Told.bytes(x, 0);
        x.row(1, Told.SHORTS, 0);
        x.row(2, Told.SHORTS, 1);
        says("of 0 .. 60 elements");
        due("put", x.put(0, 0, 1), -13);
        due("element", x.element(0, 0), Long.MIN_VALUE);
        due("none of them", x.shift(0, 0, 0, 0, 0), 0);
        due("none to another one", x.shift(1, 0, 2, 1, 0), 0);
        due("one of them", x.shift(1, 0, 2, 0, 1), -13);
        due("taken", x.taken(0, 0), -12);
        says("it ends where the row is missing, ends (within a two, too)");
        due("no bar", x.bars(1, 0, 12), 0);
        due("no bar of one", x.bars(2, 0, 12), 0);
        says("from now, in thought");
        due("right", x.plan(0, 0, 0), 40);
        due("wrong", x.plan(0, 0, 1), 50);
        due("came", x.came(0, 0), -2);
        int[] want = {1, 2, 0, 0, 0};
        for (int what = 0; what < 5; what++) {
            due("lesson(0, " + what + ")", x.lesson(0, what), want[what]);
        }
        due("stop", x.stop(0), 0);
    }

    private static void shelfOfNothing() {
        says("-11 nothing is there where something is wanted");
        PractisedWrong x = Told.piece(40, 50);
        x.row(5, 0, 1);
        x.keep(5, -1);
        for (int s = 0; s <= 5; s += 5) {
            due("plan", x.plan(s, 0, 0), -11);
            due("came", x.came(s, 0), -11);
            due("lesson", x.lesson(s, 0), -11);
            due("stop", x.stop(s), -11);
            due("judge", x.judge(s), -11);
            due("wrongFor", x.wrongFor(s, 0, 0), -11);
            due("fadesFor", x.fadesFor(s), -11);
            due("which", x.which(s), -11);
            due("put", x.put(s, 0, 1), -11);
            due("element", x.element(s, 0), Long.MIN_VALUE);
            due("shift", x.shift(s, 0, s, 0, 0), -11);
            due("taken", x.taken(s, 0), -11);
            due("keep nothing again", x.keep(s, -1), 1);
        }
        x.row(1, 0, 3);
        due("shift from nothing", x.shift(0, 0, 1, 0, 0), -11);
        due("shift to nothing", x.shift(1, 0, 0, 0, 0), -11);
    }

    private static void missingRow() {
        says("-12 (no ROW of shorts; a SHELF that holds nothing is missing)");
        PractisedWrong x = new PractisedWrong();
        for (int i : new int[] {Told.LEAST, -1, 0, 1, 60, Told.GREATEST}) {
            due("from " + i, x.bars(0, i, 12), 0);
        }
        due("none came", x.count(0), 0);
        x.body(0);
        x.keep(1, 0);
        due("a playing", x.bars(1, 0, 1), -12);
        for (int sort : new int[] {Told.BYTES, Told.INTS, Told.LONGS, Told.BOOLEANS}) {
            x.row(1, sort, 4);
            due("a row of sort " + sort, x.bars(1, 0, 1), -12);
            x.row(1, sort, 0);
            due("an empty row of sort " + sort, x.bars(1, 0, 1), -12);
        }
    }

    private static void planThatEnds() {
        says("anything else (a BAR that is none, too) ends it");
        PractisedWrong x = Told.piece(60, 50, 50, 60);
        for (int first : new int[] {2, 12, 19, 22, 32, 59, 61, 127, -1, -128}) {
            Told.bytes(x, 0, first, 0, 21, 60);
            due("right", x.plan(0, 0, 0), 60);
            due("wrong", x.plan(0, 1, 1), 60);
            due("came", x.came(0, 0), -2);
            due("came", x.came(0, 1), -2);
            int[] want = {1, 1, 1, 0, 0};
            for (int what = 0; what < 5; what++) {
                due("lesson(0, " + what + ")", x.lesson(0, what), want[what]);
            }
            due("stop", x.stop(0), 0);
        }
    }

    private static void heardThatLacks() {
        says("and how it came (1, 0; anything else, also what lacks: not heard)");
        PractisedWrong x = Told.piece(60, 50);
        Told.bytes(x, 0, 0);
        due("judge", x.judge(0), -2);
        due("least", x.wrongFor(0, 0, 0), 0);
        due("greatest", x.wrongFor(0, 0, 1), 999);
        due("fades", x.fadesFor(0), 0);
        Told.bytes(x, 0, 0, 1, 0);
        due("behind one", x.judge(0), -2);
        due("behind one: greatest", x.wrongFor(0, 0, 1), 59);
        for (int told : new int[] {2, -1, 127, -128}) {
            Told.bytes(x, 0, 0, told);
            due("judge of " + told, x.judge(0), -2);
            due("greatest of " + told, x.wrongFor(0, 0, 1), 999);
        }
        says("the first two that is not so (also one that no PLAN has)");
        Told.bytes(x, 0, 1);
        due("a bar that is none, the second lacks", x.judge(0), 0);
        due("not so for any", x.wrongFor(0, 0, 0), -2);
        due("not so for any", x.fadesFor(0), -2);
        Told.bytes(x, 0, 0, 1, 99);
        due("behind one", x.judge(0), 1);
    }

    private static void heardOfNone() {
        says("HEARD: a ROW of bytes: by twos what a PLAN has (as above)");
        PractisedWrong x = Told.piece(40, 50, 7, 7);
        Told.bytes(x, 0);
        due("judge", x.judge(0), -2);
        due("least", x.wrongFor(0, 1, 0), 0);
        due("greatest", x.wrongFor(0, 1, 1), 999);
        due("fades", x.fadesFor(0), 0);
        says("BARS (bits) it may have been");
        due("any", x.which(0), 3);
    }

    private static void noChanges() {
        says("UNDONE: how many may still be. STATE: none.");
        PractisedWrong x = Told.piece(40, 50);
        due("undo", x.undo(), -5);
        x.play(0, 0);
        x.night();
        x.bar(1, 1);
        due("deeds are none", x.undo(), -5);
        x.mend(0, 3, 20);
        due("telling the same is none", x.undo(), -5);
        x.mend(0, 3, 1000);
        due("a refused one is none", x.undo(), -5);
        x.mend(0, 3, 21);
        due("the only one", x.undo(), 0);
        due("none", x.undo(), -5);
        says("DONE AGAIN: how many may still be. STATE: none.");
        due("the only one", x.redo(), 0);
        due("none", x.redo(), -5);
        due("of", x.of(0, 3), 21);
        PractisedWrong y = new PractisedWrong();
        due("redo", y.redo(), -5);
        y.mend(0, 3, 21);
        due("none undone", y.redo(), -5);
        y.undo();
        y.mend(0, 4, 5);
        due("another one came behind", y.redo(), -5);
        due("of", y.of(0, 3), 20);
    }

    private static void noImage() {
        says("STATE: there is none.");
        PractisedWrong x = Told.piece(40, 50);
        x.play(0, 0);
        due("back", x.back(), -5);
        due("of", x.of(0, 1), 56);
        due("led", x.led(0), 1);
        says("It is laid back (BARS that came since stay as they are): PLAYINGS.");
        PractisedWrong y = new PractisedWrong();
        due("an image of no bars", y.image(), 0);
        y.bar(40, 50);
        y.play(0, 0);
        due("back", y.back(), 0);
        due("it stays as it is", y.of(0, 1), 56);
        due("played today", y.of(0, 10), 1);
        due("what led tells", y.led(0), 0);
    }

    private static void noTrace() {
        says("numbers of the bodies that ran in the latest act(), as they began");
        PractisedWrong x = new PractisedWrong();
        due("trace(0)", x.trace(0), -1);
        due("count(4)", x.count(4), 0);
        due("no playing", x.act(0, 0, 5), 0);
        due("trace(0)", x.trace(0), -1);
        x.body(0);
        due("not by body()", x.trace(0), -1);
        due("act", x.act(0, 0, 5), 5);
        due("trace(0)", x.trace(0), 1);
        due("trace(1)", x.trace(1), -1);
        x.body(0);
        due("it stays behind body()", x.trace(0), 1);
    }

    private static void noDays() {
        says("each of n days (0 .. 30) both play once");
        PractisedWrong x = Told.piece(60, 50, 70, 50);
        due("a", x.hearing(1, 0, 0), 10);
        due("b", x.hearing(1, 0, 1), 20);
        due("no day", x.hearing(1, 0, 2), -2);
        says("SPREAD: n PLAYINGS (0 .. 12) of a BAR");
        // 60, 50: 50, 42: 42, 35
        due("none over two days", x.spread(0, 2, -1), 7);
        due("on the first", x.spread(0, 2, 0), 0);
        due("on the second", x.spread(0, 2, 1), 0);
        says("which BARS to play so that most come RIGHT in a LESSON then");
        due("with none", x.with(0, 1), 3);
        due("with none", x.with(0, 2), 0);
    }

    private static void nothingInTheFingers() {
        says("RIGHT by both (neither: 1 by 2): a fraction in lowest terms");
        PractisedWrong x = Told.piece(0, 0, 0, 9, 9, 0, 9, 9, 6, 3);
        long[] want = {1, 2, 0, 1, 1, 1, 1, 2, 2, 3};
        for (int b = 0; b < 5; b++) {
            due("above " + b, x.odds(b, 0), want[2 * b]);
            due("below " + b, x.odds(b, 1), want[2 * b + 1]);
        }
        says("times RIGHT by both (cut; neither: by 2) for each BAR by numbers");
        due("neither", Told.piece(0, 0).all(), 500000);
        due("neither, eight times", Told.piece(0, 0, 0, 0, 0, 0, 0, 0, 0, 0, 0, 0, 0, 0, 0, 0).all(), 3906);
        due("neither, cut", Told.piece(1, 2, 0, 0).all(), 166666);
        says("is below RIGHT (neither: % 2 below 1)");
        // 12345 >>> 8 is 48, even; by seed 2 it is odd
        due("even", Told.piece(0, 0).drawn(0, 1, 1), 1);
        due("odd", Told.piece(0, 0).drawn(2, 1, 1), 0);
        says("it comes RIGHT, if RIGHT, SLOWLY if slow");
        due("neither, not slow", x.playing(0, 0, 0), 0);
        due("neither, slow", x.playing(0, 1, 0), 1);
        says("NOT: not even now");
        due("neither", x.stays(0), -2);
        says("NEW FINGER: a BAR with RIGHT, WRONG 0");
        due("as it is with neither", x.finger(0, 1), -12);
    }
}
