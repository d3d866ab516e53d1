/** For each promise: ordinary inputs, the edges that the document names, wrong inputs. Worked out by hand. */
public final class PromisesTest {
    private static int wrong = 0;
    private static int promise = 0;

    private static void due(String call, long got, long want) {
        if (got != want) {
            wrong++;
            System.out.println("promise " + promise + ": " + call + " answered " + got + ", due is " + want);
        }
    }

    private static PractisedWrong piece(int... rightWrong) {
        PractisedWrong x = new PractisedWrong();
        for (int i = 0; i + 1 < rightWrong.length; i += 2) {
            x.bar(rightWrong[i], rightWrong[i + 1]);
        }
        return x;
    }

    private static int tell(PractisedWrong x, String text) {
        for (int i = 0; i < text.length(); i++) {
            x.feed(text.charAt(i));
        }
        return x.law();
    }

    private static void bytes(PractisedWrong x, int shelf, int... values) {
        x.row(shelf, 0, values.length);
        for (int i = 0; i < values.length; i++) {
            x.put(shelf, i, values[i]);
        }
    }

    private static void shorts(PractisedWrong x, int shelf, int... values) {
        x.row(shelf, 1, values.length);
        for (int i = 0; i < values.length; i++) {
            x.put(shelf, i, values[i]);
        }
    }

    public static void main(String[] args) {
        newObject(); barAndBars(); mendAndOf(); tapeAndLaw(); worth(); playing();
        plan(); came(); lesson(); times(); stays(); with(); spread(); stop(); finger(); whole();
        odds(); all(); judge(); wrongFor(); fadesFor(); which(); hearing(); fromNow(); drawn();
        play(); night(); thursday(); led(); imageAndBack(); undoAndRedo();
        body(); act(); keep(); rowPutElement(); shift(); taken(); count();
        System.out.println(wrong == 0 ? "promises: all answers are as due" : "promises: " + wrong + " answers are not as due");
        if (wrong != 0) {
            System.exit(1);
        }
    }

    private static void newObject() {
        promise = 1;
        PractisedWrong x = new PractisedWrong();
        for (int what = 0; what <= 4; what++) {
            due("count", x.count(what), 0);
            due("led", x.led(what), 0);
        }
        int[] habits = {20, 10, 2, 1, 12};
        for (int what = 3; what <= 7; what++) {
            due("of(0, " + what + ")", x.of(0, what), habits[what - 3]);
        }
        for (int shelf = 0; shelf < 6; shelf++) {
            due("put on nothing", x.put(shelf, 0, 1), -11);
        }
        due("back", x.back(), -5);
        due("undo", x.undo(), -5);
        due("redo", x.redo(), -5);
        due("trace", x.trace(0), -1);
    }

    private static void barAndBars() {
        promise = 2;
        PractisedWrong x = new PractisedWrong();
        due("bar(-1, 0)", x.bar(-1, 0), -1);
        due("bar(0, 1000)", x.bar(0, 1000), -1);
        for (int i = 0; i < 12; i++) {
            due("bar", x.bar(999 - i, i), i);
        }
        due("bar, too many and bad", x.bar(1000, 0), -1);
        due("bar, too many", x.bar(0, 0), -3);
        due("count", x.count(0), 12);
        due("of", x.of(11, 0), 988);
        due("of", x.of(11, 1), 11);
        due("of", x.of(11, 2), 0);

        promise = 3;
        x = new PractisedWrong();
        due("nothing there", x.bars(0, 0, 3), 0);
        due("nothing there, below 0", x.bars(0, -1, 1), 0);
        due("nothing there, n 0", x.bars(0, -1, 0), -1);
        due("no shelf, below 0", x.bars(6, -1, 1), -1);
        shorts(x, 0, 1, 2, 3, 4, 5);
        due("bars(6, 0, 1)", x.bars(6, 0, 1), -1);
        due("bars(-1, 0, 1)", x.bars(-1, 0, 1), -1);
        due("bars(0, 0, 0)", x.bars(0, 0, 0), -1);
        due("bars(0, 0, 13)", x.bars(0, 0, 13), -1);
        due("from one ahead of the row", x.bars(0, -1, 1), 0);
        due("from a two ahead of the row", x.bars(0, -2, 12), 0);
        due("from far ahead of the row", x.bars(0, Integer.MIN_VALUE, 12), 0);
        due("below 0 and n 13", x.bars(0, -1, 13), -1);
        due("count", x.count(0), 0);
        due("ends within a two", x.bars(0, 0, 12), 2);
        due("of", x.of(1, 1), 4);
        due("from an odd place", x.bars(0, 1, 1), 1);
        due("of", x.of(2, 0), 2);
        due("of", x.of(2, 1), 3);
        due("at the last", x.bars(0, 4, 1), 0);
        due("behind the end", x.bars(0, 5, 1), 0);
        due("far behind the end", x.bars(0, Integer.MAX_VALUE, 12), 0);
        shorts(x, 1, 7, 8, 1000, 0, 9, 9);
        due("one is not so", x.bars(1, 0, 3), 1);
        due("count", x.count(0), 4);
        shorts(x, 1, 7, 8, 0, -1, 9, 9);
        due("one is not so", x.bars(1, 0, 3), 1);
        x.row(2, 0, 4);
        due("bytes", x.bars(2, 0, 1), -12);
        due("bytes, below 0", x.bars(2, -1, 1), -12);
        x.body(0);
        x.keep(2, 0);
        due("a playing", x.bars(2, 0, 1), -12);
        due("a playing, below 0", x.bars(2, -1, 1), -12);
        x.row(2, 1, 24);
        due("up to full", x.bars(2, 0, 12), 7);
        due("full", x.bars(2, 0, 12), 0);
    }

    private static void mendAndOf() {
        promise = 4;
        PractisedWrong x = piece(40, 50);
        int[] most = {999, 999, 1, 99, 99, 12, 9, 99};
        int[] was = {40, 50, 0, 20, 10, 2, 1, 12};
        for (int what = 0; what < 8; what++) {
            due("mend too great", x.mend(0, what, most[what] + 1), -1);
            due("mend below 0", x.mend(0, what, -1), -1);
            due("mend of 1", x.mend(1, what, 0), -1);
            due("mend of -1", x.mend(-1, what, 0), -1);
            due("unchanged", x.of(0, what), was[what]);
            due("mend", x.mend(0, what, most[what]), was[what]);
            due("mend to 0", x.mend(0, what, 0), most[what]);
            due("of", x.of(0, what), 0);
        }
        due("mend(0, 8, 0)", x.mend(0, 8, 0), -1);
        due("mend(0, -1, 0)", x.mend(0, -1, 0), -1);
        due("mend(0, 10, 0)", x.mend(0, 10, 0), -1);

        promise = 5;
        due("of(0, -1)", x.of(0, -1), -1);
        due("of(0, 8)", x.of(0, 8), -1);
        due("of(0, 9)", x.of(0, 9), -1);
        due("of(0, 12)", x.of(0, 12), -1);
        due("of(1, 10)", x.of(1, 10), -1);
        due("of(-1, 11)", x.of(-1, 11), -1);
        due("of(1, 7)", x.of(1, 7), -1);
        due("of(0, 10)", x.of(0, 10), 0);
        x.play(0, 0);
        x.mend(0, 0, 500);
        x.play(0, 0);
        x.play(0, 1);
        due("of(0, 10)", x.of(0, 10), 3);
        due("of(0, 11)", x.of(0, 11), 2);
        x.thursday();
        due("a lesson is no playing of the day", x.of(0, 10), 3);
        x.night();
        due("of(0, 10)", x.of(0, 10), 0);
        due("of(0, 11)", x.of(0, 11), 0);
    }

    private static void tapeAndLaw() {
        promise = 6;
        PractisedWrong x = piece(5, 0);
        due("feed(-1)", x.feed(-1), -1);
        due("feed(256)", x.feed(256), -1);
        due("feed(0)", x.feed(0), 1);
        due("feed(255)", x.feed(255), 2);
        for (int i = 2; i < 120; i++) {
            due("feed", x.feed('1'), i + 1);
        }
        due("feed bad when full", x.feed(256), -1);
        due("feed when full", x.feed('1'), -3);
        due("count", x.count(1), 120);

        promise = 7;
        due("law", x.law(), -100);
        due("the tape is empty then", x.count(1), 0);
        due("law of nothing", x.law(), -100);
        String[] good = {"1", "9999", "0000", "r", "!!!!!!1", "((((((n))))))", "-(-(-1))", "1?2", "1;2;3?4;5", "1+2-3*4/5%6", "1<2&3=4|5>6",
            "1?((((((n))))))", "1;2?!!!!!!n", "(1<2)<3", "--1", "1--1", "!(1)", "(1)+((2))", "q?7-n;w>r?12;3"};
        for (String text : good) {
            due("law of " + text, tell(x, text), 1);
        }
        faults(x);
        due("the law stays as it was", x.playing(0, 0, 1), 7);
        StringBuilder full = new StringBuilder("0");
        for (int i = 0; i < 59; i++) {
            full.append("+1");
        }
        due("119 bytes", tell(x, full.toString()), 1);
        due("59 of them", x.playing(0, 0, 1), 59);
        due("120 bytes, ends too early", tell(x, full + "+"), -220);
        due("120 bytes", tell(x, full.substring(0, 117) + "+99"), 1);
        due("58 and 99", x.playing(0, 0, 1), 99);
    }

    private static void faults(PractisedWrong x) {
        Object[] told = {"x", 0, "1 ", 1, "12345", 4, "1+", 2, "1;", 2, ";", 0, "1?", 2, "1?2?3", 3, "1<2<3", 3, "1=2>3", 3, "(1", 2, "(1;", 2, "(1?2)", 2,
            "()", 1, "1)", 1, "!!!!!!!1", 6, "(((((((1", 6, "-(!-(!-1", 6, "-(!-(!1", 7, "+1", 0, "1!", 1, "rw", 1, "r1", 1, "1r", 1, "", 0, "1;?", 2,
            "1*+2", 2, "1*-2R", 4, "((1))+((((((1", 13, "((1))+(((((((1", 12, "1;2;3??", 6, "1?(((((((1", 8, "q?7-n;w>r?12;3;", 15};
        for (int i = 0; i < told.length; i += 2) {
            due("law of " + told[i], tell(x, (String) told[i]), -100 - (Integer) told[i + 1]);
            due("the tape is empty then", x.count(1), 0);
        }
    }

    private static int worthOf(PractisedWrong x, String text, int slow) {
        tell(x, text);
        return x.playing(0, slow, 1);
    }

    private static void worth() {
        promise = 7;
        PractisedWrong x = piece(17, 30);
        x.mend(0, 2, 1);
        x.mend(0, 4, 0);
        x.play(0, 0);
        x.play(0, 0);
        x.mend(0, 1, 30);
        Object[] told = {"r", 17, "w", 30, "q", 0, "s", 0, "m", 1, "n", 2, "100", 99, "-1", 0, "7/0", 0, "7%0+1", 1, "(0-7)/2+9", 6, "(0-7)%2+9", 8,
            "7/2", 3, "7%4*2", 6, "2*3%4", 2, "10-3-4", 3, "2+3*4", 14, "(2+3)*4", 20, "5&3", 1, "5&0", 0, "5|0", 1, "0|0", 0, "5", 5, "(5)", 5,
            "1<2", 1, "2<1", 0, "2=2", 1, "2>1", 1, "!5", 0, "!0", 1, "!!5", 1, "-3+5", 2, "5--3", 8, "1|1&0", 1, "(1|1)&0", 0, "0&1|1", 1,
            "1+1=2", 1, "3&1<2", 1, "!r<w", 1, "!r+4", 4, "-2*-3", 6, "0?5", 0, "0?5;7", 7, "3?5;7", 5, "7;5", 7, "0?1;0?2;r>w?3;w>r?4;5", 4,
            "-1?8;2", 8, "9999*9999*9999<0", 1, "9999*9999*22<0", 1, "m+n+q+s", 3};
        for (int i = 0; i < told.length; i += 2) {
            due("worth of " + told[i], worthOf(x, (String) told[i], 0), (Integer) told[i + 1]);
        }
        due("slow", worthOf(x, "s*10+q", 1), 11);
        due("wraps", worthOf(x, "9999*9999*9999*9999=" + "9999*9999*9999*9999", 0), 1);
        due("the least by -1", worthOf(x, "4096*4096*128/-1<0", 0), 1);
        due("the least by -1, rest", worthOf(x, "4096*4096*128%-1=0", 0), 1);
    }

    private static void playing() {
        promise = 8;
        PractisedWrong x = piece(40, 50, 30, 60, 10, 10);
        due("bad bar", x.playing(3, 0, 0), -1);
        due("bad bar", x.playing(-1, 0, 0), -1);
        due("bad slow", x.playing(0, -1, 0), -1);
        due("bad what", x.playing(0, 0, -1), -1);
        due("not slow", x.playing(0, 0, 0), 0);
        due("slow", x.playing(0, 1, 0), 1);
        due("alike is wrong", x.playing(2, 0, 0), 0);
        x.mend(0, 3, 10);
        due("alike with slowly is wrong", x.playing(0, 1, 0), 0);
        x.mend(0, 3, 20);
        due("slow is not enough", x.playing(1, 1, 0), 0);
        x.mend(1, 2, 1);
        due("with a mark alike", x.playing(1, 1, 0), 0);
        x.mend(0, 4, 11);
        due("with a mark", x.playing(1, 1, 0), 1);
        due("a mark alone", x.playing(1, 0, 0), 0);
        due("wrong, not slow", x.playing(0, 0, 1), 6);
        due("right, slow", x.playing(0, 1, 1), 6);
        due("wrong, slow", x.playing(1, 0, 1), 6);
        x.play(0, 0);
        x.play(0, 0);
        due("two ahead", x.playing(0, 0, 1), 4);
        for (int i = 0; i < 9; i++) {
            x.play(0, 0);
        }
        due("1 at least", x.playing(0, 0, 1), 1);
        due("nothing was added", x.of(1, 10), 0);
    }

    private static void plan() {
        promise = 9;
        PractisedWrong x = piece(40, 50, 30, 70);
        due("bad shelf", x.plan(6, 0, 0), -1);
        due("bad bar on nothing", x.plan(0, 2, 0), -1);
        due("bad what on nothing", x.plan(0, 0, 2), -1);
        due("nothing", x.plan(0, 0, 0), -11);
        x.body(0);
        x.keep(0, 0);
        due("a playing", x.plan(0, 0, 0), -12);
        x.row(0, 4, 3);
        due("booleans", x.plan(0, 0, 0), -12);
        // 40, 50: slow right + 6; slow right + 5; night: 51 - 8, 50 - 8 + 1; wrong then: 43, 43 + 6
        bytes(x, 0, 20, 20, 60, 0, 99, 0, 0);
        due("right", x.plan(0, 0, 0), 43);
        due("wrong", x.plan(0, 0, 1), 49);
        due("the other", x.plan(0, 1, 0), 25);
        due("the other", x.plan(0, 1, 1), 59);
        int[] ends = {12, 19, 32, 59, 61, -1, 2, 22, 127, -128};
        for (int end : ends) {
            bytes(x, 0, end, 0, 0);
            due("ended by " + end, x.lesson(0, 4), 0);
        }
        bytes(x, 0);
        due("without bytes", x.plan(0, 0, 1), 50);
        due("from now", x.play(0, 1), 1);
        bytes(x, 0, 20, 60);
        due("from now", x.plan(0, 0, 1), 43);
        due("in thought", x.of(0, 0), 46);
        due("in thought", x.of(0, 10), 1);
    }

    private static void came() {
        promise = 10;
        PractisedWrong x = piece(40, 50);
        due("bad shelf", x.came(-1, 0), -1);
        due("bad place on nothing", x.came(0, -1), -1);
        due("nothing", x.came(0, 0), -11);
        x.row(0, 1, 1);
        due("shorts", x.came(0, 99), -12);
        bytes(x, 0, 0, 20, 60, 5, 20);
        due("0", x.came(0, 0), 0);
        due("1", x.came(0, 1), 1);
        due("a night", x.came(0, 2), -2);
        due("where it ends", x.came(0, 3), -2);
        due("behind where it ends", x.came(0, 4), -2);
        due("behind the row", x.came(0, 5), -2);
        due("far behind", x.came(0, Integer.MAX_VALUE), -2);
    }

    private static void lesson() {
        promise = 11;
        PractisedWrong x = piece(9, 5, 5, 5, 7, 6);
        x.mend(1, 2, 1);
        due("bad shelf", x.lesson(6, 0), -1);
        due("bad what on nothing", x.lesson(0, -1), -1);
        due("bad what on nothing", x.lesson(0, 5), -1);
        due("nothing", x.lesson(0, 0), -11);
        x.row(0, 2, 1);
        due("ints", x.lesson(0, 0), -12);
        bytes(x, 0);
        due("how many", x.lesson(0, 0), 2);
        due("which; marks do not count", x.lesson(0, 1), 5);
        due("the first slip", x.lesson(0, 2), 1);
        due("playings", x.lesson(0, 3), 0);
        bytes(x, 0, 1, 2, 20, 60, 44);
        due("how many", x.lesson(0, 0), 3);
        due("no slip", x.lesson(0, 2), -2);
        due("right ones", x.lesson(0, 3), 3);
        due("bytes", x.lesson(0, 4), 4);
        due("no lesson is led", x.led(3), 0);
    }

    private static void times() {
        promise = 12;
        PractisedWrong x = piece(40, 50, 0, 999, 5, 4);
        due("bad bar", x.times(3, 0), -1);
        due("bad slow", x.times(0, 2), -1);
        due("slow: 46, 51", x.times(0, 1), 2);
        due("wrong for ever", x.times(0, 0), -2);
        due("now", x.times(2, 0), 0);
        due("wrong for ever", x.times(1, 1), -2);
        x.play(0, 1);
        due("that day: 46, 51", x.times(0, 1), 1);
        tell(x, "1");
        x.mend(1, 2, 1);
        x.mend(0, 4, 99);
        x.mend(1, 0, 900);
        x.mend(1, 1, 998);
        due("98 more make it alike", x.times(1, 0), 99);
        x.mend(1, 0, 899);
        due("alike behind 99", x.times(1, 1), -2);
        due("in thought", x.of(1, 0), 899);
    }

    private static void stays() {
        promise = 13;
        PractisedWrong x = piece(5, 0, 5, 5, 100, 99, 999, 0);
        due("bad", x.stays(4), -1);
        due("not even now", x.stays(1), -2);
        // 5 stays 5, since 5 * 2 / 12 is 0
        due("for ever", x.stays(0), 99);
        // 100, 99: 84, 83; 70, 70
        due("one night", x.stays(2), 1);
        x.mend(0, 5, 12);
        due("all is gone", x.stays(3), 0);
        x.mend(0, 5, 0);
        x.mend(0, 6, 9);
        x.play(0, 0);
        x.mend(0, 0, 5);
        due("what a night brings back is 4", x.stays(0), 99);
        x.mend(0, 0, 4);
        due("what a night brings back is 4", x.stays(0), 0);
    }

    private static void with() {
        promise = 14;
        PractisedWrong x = piece(0, 500, 20, 20, 20, 20, 40, 50, 9, 0);
        due("bad n", x.with(-1, 0), -1);
        due("bad n", x.with(61, 0), -1);
        due("bad what", x.with(0, -1), -1);
        due("bad what", x.with(0, 3), -1);
        due("none to spend", x.with(0, 0), 1);
        due("none to spend", x.with(0, 1), 16);
        due("none to spend", x.with(0, 2), 0);
        due("of like ones the least bits", x.with(1, 1), 18);
        due("one each", x.with(2, 1), 22);
        // 40, 50: 46, 51 of 50: 51 - 8 is 43, 50 - 8 + 1 is 43; a third: 55 - 9 is 46
        due("too dear", x.with(4, 0), 3);
        due("just enough", x.with(5, 1), 30);
        due("all that can be", x.with(60, 0), 4);
        due("as few as that takes", x.with(60, 2), 5);
        x = piece(40, 99, 39, 99);
        x.mend(0, 3, 99);
        x.mend(0, 5, 0);
        x.mend(0, 6, 0);
        tell(x, "1");
        due("59 are too few", x.with(59, 0), 0);
        due("60 are enough for one", x.with(60, 1), 1);
        due("60 of them", x.with(60, 2), 60);
        x.mend(0, 1, 999);
        due("61 are too many", x.with(60, 0), 0);
    }

    private static void spread() {
        promise = 15;
        int none = -2000000000;
        PractisedWrong x = piece(40, 50);
        due("bad bar", x.spread(1, 11, -1), none);
        due("bad bar", x.spread(-1, 11, -1), none);
        due("below 0", x.spread(0, -9, -1), none);
        due("no days", x.spread(0, 10, -1), none);
        due("six days", x.spread(0, 16, -1), none);
        due("thirteen", x.spread(0, 131, -1), none);
        due("no such day", x.spread(0, 12, -2), none);
        due("no such day", x.spread(0, 12, 2), none);
        due("two nights: 40 34 29, 50 42 35", x.spread(0, 2, -1), -6);
        due("nothing to spread", x.spread(0, 2, 0), 0);
        due("one day: 46 - 7, 50 - 8 + 0", x.spread(0, 11, -1), -3);
        // on the last day: 34 + 6 is 40, 34; on the first: 46, 39, 33; wrong 35
        due("the last day", x.spread(0, 12, 1), 1);
        due("the first day", x.spread(0, 12, 0), 0);
        due("then", x.spread(0, 12, -1), -1);
        x.mend(0, 5, 0);
        x.mend(0, 6, 0);
        tell(x, "5");
        for (int n = 0; n <= 12; n++) {
            due("of like ones the last day", x.spread(0, 10 * n + 5, 4), n);
            due("so much", x.spread(0, 10 * n + 5, -1), 5 * n - 10);
        }
        tell(x, "n<2?5");
        due("two a day are enough: last", x.spread(0, 53, 2), 2);
        due("two a day are enough: ahead", x.spread(0, 53, 1), 2);
        due("two a day are enough: first", x.spread(0, 53, 0), 1);
        due("more than enough: last", x.spread(0, 83, 2), 4);
        x.play(0, 1);
        x.play(0, 1);
        due("today is used up", x.spread(0, 32, 1), 3);
        due("today is used up: 10 more", x.spread(0, 32, -1), 50 + 10 - 50);
        due("today is used up, and it is the only day", x.spread(0, 31, -1), 0);
    }

    private static void stop() {
        promise = 16;
        PractisedWrong x = piece(20, 20, 20, 30);
        due("bad", x.stop(6), -1);
        due("nothing", x.stop(0), -11);
        x.row(0, 3, 2);
        due("longs", x.stop(0), -12);
        bytes(x, 0);
        due("without bytes", x.stop(0), 0);
        // bar 0 is right behind the first; bar 1: 26, 31 behind the third
        bytes(x, 0, 20, 21, 21, 21, 20);
        due("behind the third", x.stop(0), 3);
        bytes(x, 0, 20, 60, 0, 99);
        due("behind the first", x.stop(0), 1);
        bytes(x, 0, 20, 21, 21);
        due("behind all", x.stop(0), 3);
        bytes(x, 0, 0, 1);
        due("nothing is better", x.stop(0), 0);
        x.mend(0, 5, 12);
        bytes(x, 0, 20, 60);
        due("no worse than nothing", x.stop(0), 0);
    }

    private static void finger() {
        promise = 17;
        int none = -2000000000;
        PractisedWrong x = piece(40, 50, 40, 41, 0, 0);
        due("bad", x.finger(3, 0), none);
        due("bad", x.finger(0, -1), none);
        due("bad", x.finger(0, 2), none);
        due("neither", x.finger(0, 0), 0);
        due("neither", x.finger(0, 1), -12);
        x.mend(0, 2, 1);
        due("alike with a mark", x.finger(0, 1), 1000 - 13);
        due("cheaper", x.finger(0, 0), 1);
        x.mend(1, 2, 1);
        due("dearer", x.finger(1, 0), 0);
        due("dearer", x.finger(1, 1), 1 - 13);
        x.mend(0, 7, 0);
        due("alike is not cheaper", x.finger(1, 0), 0);
        due("alike", x.finger(1, 1), 0);
        tell(x, "1");
        x.mend(1, 1, 44);
        due("four fewer", x.finger(1, 1), 4);
        x.mend(0, 7, 4);
        due("not one fewer", x.finger(1, 0), 0);
        x.mend(0, 7, 3);
        due("one fewer", x.finger(1, 0), 1);
    }

    private static void whole() {
        promise = 18;
        PractisedWrong x = piece();
        due("bad", x.whole(-1), -1);
        due("bad", x.whole(2), -1);
        due("without bars", x.whole(0), 0);
        x = piece(9, 5, 5, 4);
        due("without a slip", x.whole(0), 0);
        due("without a slip", x.whole(1), 0);
        x = piece(20, 21, 20, 28);
        x.mend(0, 2, 1);
        x.mend(1, 2, 1);
        due("28, 28", x.whole(0), 2);
        due("by bars: 1 and 2", x.whole(1), 3);
        // a slip on the way keeps the rest from being played
        x = piece(9, 5, 0, 0, 20, 21);
        x.mend(2, 2, 1);
        due("stopped ahead of it", x.whole(0), -2);
        due("never", x.whole(1), -2);
        tell(x, "1");
        x = piece(938, 998);
        x.mend(0, 2, 1);
        x.mend(0, 4, 99);
        tell(x, "1");
        due("61 are too many", x.whole(0), -2);
        due("61 by bars", x.whole(1), 61);
        x.mend(0, 0, 939);
        due("60", x.whole(0), 60);
        due("in thought", x.led(0), 0);
    }

    private static void odds() {
        promise = 19;
        PractisedWrong x = piece(40, 50, 0, 0, 0, 7, 9, 0, 999, 999);
        due("bad bar", x.odds(5, 0), Long.MIN_VALUE);
        due("bad part", x.odds(0, 2), Long.MIN_VALUE);
        due("bad part", x.odds(0, -1), Long.MIN_VALUE);
        long[] want = {4, 9, 1, 2, 0, 1, 1, 1, 1, 2};
        for (int b = 0; b < 5; b++) {
            due("above " + b, x.odds(b, 0), want[2 * b]);
            due("below " + b, x.odds(b, 1), want[2 * b + 1]);
        }
    }

    private static void all() {
        promise = 20;
        due("without bars", piece().all(), 1000000);
        due("one", piece(1, 2).all(), 333333);
        due("cut each", piece(1, 2, 1, 2, 0, 0).all(), 55555);
        due("never", piece(999, 0, 0, 5).all(), 0);
        due("always", piece(999, 0, 998, 0).all(), 1000000);
        due("cut by numbers", piece(2, 1, 999, 1).all(), 665999);
    }

    private static void judge() {
        promise = 21;
        PractisedWrong x = piece(40, 50);
        due("bad", x.judge(-1), -1);
        due("nothing", x.judge(0), -11);
        x.row(0, 4, 2);
        due("booleans", x.judge(0), -12);
        bytes(x, 0);
        due("nothing heard", x.judge(0), -2);
        bytes(x, 0, 20, 1, 20, 1, 0, 1);
        due("all is so", x.judge(0), -2);
        bytes(x, 0, 20, 1, 0, 1);
        due("the second", x.judge(0), 1);
        bytes(x, 0, 20, 2, 0, -1, 60, 0, 60, 1, 0, 0, 20);
        due("not heard, and nights", x.judge(0), -2);
        bytes(x, 0, 20, 1, 1, 9);
        due("none that a plan has", x.judge(0), 1);
        bytes(x, 0, 20, 1, 33);
        due("none that a plan has, not heard", x.judge(0), 1);
        x.play(0, 1);
        x.play(0, 1);
        bytes(x, 0, 0, 1);
        due("from now", x.judge(0), -2);
    }

    private static void wrongFor() {
        promise = 22;
        PractisedWrong x = piece(40, 50, 7, 7);
        due("bad shelf", x.wrongFor(6, 0, 0), -1);
        due("bad bar on nothing", x.wrongFor(0, 2, 0), -1);
        due("bad what on nothing", x.wrongFor(0, 0, 2), -1);
        due("nothing", x.wrongFor(0, 0, 0), -11);
        x.row(0, 1, 2);
        due("shorts", x.wrongFor(0, 0, 0), -12);
        bytes(x, 0);
        due("anything", x.wrongFor(0, 0, 0), 0);
        due("anything", x.wrongFor(0, 0, 1), 999);
        bytes(x, 0, 20, 1, 0, 0);
        // slow right: below 60; then 46 is not more
        due("least", x.wrongFor(0, 0, 0), 46);
        due("greatest", x.wrongFor(0, 0, 1), 59);
        bytes(x, 0, 20, 0, 60, 3, 0, 0);
        due("least", x.wrongFor(0, 0, 0), 60);
        due("greatest", x.wrongFor(0, 0, 1), 999);
        x.mend(0, 0, 979);
        bytes(x, 0, 20, 0);
        due("the very most", x.wrongFor(0, 0, 0), 999);
        due("the very most", x.wrongFor(0, 0, 1), 999);
        x.mend(0, 0, 1);
        bytes(x, 0, 0, 1);
        due("none at all", x.wrongFor(0, 0, 0), 0);
        due("none at all", x.wrongFor(0, 0, 1), 0);
        bytes(x, 0, 1, 1, 0, 0);
        due("it is not that bar", x.wrongFor(0, 0, 0), -2);
        bytes(x, 0, 0, 0, 44, 1);
        due("none that a plan has", x.wrongFor(0, 0, 1), -2);
        due("in thought", x.of(0, 1), 50);
    }

    private static void fadesFor() {
        promise = 23;
        PractisedWrong x = piece(40, 50);
        due("bad", x.fadesFor(6), -1);
        due("nothing", x.fadesFor(0), -11);
        x.row(0, 2, 2);
        due("ints", x.fadesFor(0), -12);
        bytes(x, 0, 60, 5, 0, 1);
        due("never: both fade alike", x.fadesFor(0), -2);
        bytes(x, 0, 60, 5, 20, 0);
        due("never", x.fadesFor(0), -2);
        x = piece(12, 0);
        x.mend(0, 6, 9);
        x.play(0, 0);
        // 20 and 0 with 4 brought back: 20 - 20 * f / 12 is 4 or less from 10 on
        bytes(x, 0, 60, 5, 0, 0);
        due("so much", x.fadesFor(0), 10);
        bytes(x, 0, 60, 5, 0, 1);
        due("least", x.fadesFor(0), 0);
        due("in thought", x.of(0, 5), 2);
    }

    private static void which() {
        promise = 24;
        PractisedWrong x = piece(9, 0, 0, 9, 9, 9, 20, 19);
        due("bad", x.which(6), -1);
        due("nothing", x.which(0), -11);
        x.body(1);
        x.keep(0, 0);
        due("a playing", x.which(0), -12);
        bytes(x, 0);
        due("any", x.which(0), 15);
        bytes(x, 0, 1);
        due("right", x.which(0), 9);
        bytes(x, 0, 7, 0);
        due("wrong on the second day", x.which(0), 6);
        x.mend(2, 2, 1);
        bytes(x, 0, 1, 2, 1);
        due("a mark counts", x.which(0), 13);
        bytes(x, 0, 0, 1);
        due("none", x.which(0), 0);
    }

    private static void hearing() {
        promise = 25;
        int none = -2000000000;
        PractisedWrong x = piece(40, 50, 80, 20);
        due("below 0", x.hearing(-1, 1, 0), none);
        due("bad one", x.hearing(200, 1, 0), none);
        due("bad other", x.hearing(2, 1, 0), none);
        due("bad other", x.hearing(99, 1, 0), none);
        due("bad n", x.hearing(1, 31, 0), none);
        due("bad n", x.hearing(1, -1, 0), none);
        due("bad what", x.hearing(1, 1, 3), none);
        due("no days", x.hearing(1, 0, 0), -10);
        due("no days", x.hearing(1, 0, 1), 60);
        due("no days", x.hearing(1, 0, 2), -2);
        // a: 40, 50 wrong by 6, hears 4 right: 44, 56: 37, 47. b: 80, 20 right by 8, hears 3 wrong: 88, 23: 74, 20 + 0
        due("one day", x.hearing(1, 1, 0), -10);
        due("one day", x.hearing(1, 1, 1), 54);
        due("the other way", x.hearing(100, 1, 0), 54);
        due("not both", x.hearing(1, 30, 2), -2);
        // alike: 80, 20 by 8 and 4: 92, 20: 77, 17
        due("alike", x.hearing(101, 1, 0), 60);
        due("alike", x.hearing(101, 1, 1), 60);
        due("both at once", x.hearing(101, 1, 2), 0);
        x = piece(10, 11, 9, 0);
        x.mend(0, 5, 0);
        x.mend(0, 6, 0);
        tell(x, "q*9");
        due("the second day", x.hearing(1, 5, 2), 1);
        due("half is cut: 14, 11", x.hearing(1, 1, 0), 3);
        tell(x, "200*q");
        due("held: 99 by half", x.hearing(1, 1, 0), 10 + 49 - 11);
    }

    /** What was played today counts on the first day of what is tried in thought. */
    private static void fromNow() {
        PractisedWrong x = piece(10, 15);
        x.mend(0, 2, 1);
        x.mend(0, 5, 0);
        x.mend(0, 6, 0);
        x.mend(0, 7, 0);
        tell(x, "n");
        promise = 12;
        due("nothing played: 10, 11, 13, 16", x.times(0, 1), 4);
        due("the first adds nothing", x.play(0, 1), 1);
        due("played once: 11, 13, 16", x.times(0, 1), 3);
        promise = 14;
        due("played once: 11, 13, 16", x.with(60, 2), 3);
        promise = 17;
        due("3 as it is, 1 anew", x.finger(0, 1), 2);
        promise = 18;
        due("played once: 11, 13, 16", x.whole(0), 3);
        due("played once: 11, 13, 16", x.whole(1), 3);
        promise = 25;
        tell(x, "n*4");
        due("4 of one's own, 2 heard", x.hearing(0, 1, 0), 1);
        promise = 24;
        tell(x, "0");
        x.mend(0, 6, 4);
        // 15 and 4 for the two of today, then 2: 21 against 20
        bytes(x, 0, 1, 1, 0);
        due("the first night brings back more", x.which(0), 1);
        bytes(x, 0, 1, 1, 1);
        due("the first night brings back more", x.which(0), 0);
    }

    private static void drawn() {
        promise = 26;
        PractisedWrong x = piece();
        due("bad n", x.drawn(1, 0, 0), -1);
        due("bad n", x.drawn(1, 31, 0), -1);
        due("bad what", x.drawn(1, 1, 2), -1);
        due("bad what", x.drawn(1, 1, -1), -1);
        due("without bars", x.drawn(1, 30, 0), 30);
        due("without bars", x.drawn(1, 30, 1), 0);
        x = piece(9, 0, 5, 0);
        due("always", x.drawn(-7, 30, 0), 30);
        due("always", x.drawn(-7, 30, 1), 60);
        x = piece(0, 9, 5, 0);
        due("never whole", x.drawn(77, 30, 0), 0);
        due("goes on behind a slip", x.drawn(77, 30, 1), 30);
        // seed 0: 12345 >>> 8 is 48, even
        due("neither", piece(0, 0).drawn(0, 1, 0), 1);
        // seed 1: 1103527590 >>> 8 is 4310654; by 10 it leaves 4
        due("below", piece(5, 5).drawn(1, 1, 1), 1);
        due("not below", piece(4, 6).drawn(1, 1, 1), 0);
        // seed 2: 2207042835 is below 0 as an int; its upper 24 bits are 8621261, odd
        due("neither, odd", piece(0, 0).drawn(2, 1, 0), 0);
        due("of an int below 0", piece(2, 8).drawn(2, 1, 1), 1);
        due("of an int below 0", piece(1, 9).drawn(2, 1, 1), 0);
    }

    private static void play() {
        promise = 27;
        PractisedWrong x = piece(40, 50, 999, 998, 0, 999);
        due("bad bar", x.play(3, 0), -1);
        due("bad slow", x.play(0, 2), -1);
        due("bad slow", x.play(0, -1), -1);
        due("wrong", x.play(0, 0), 0);
        due("of", x.of(0, 1), 56);
        due("slow", x.play(0, 1), 1);
        due("of", x.of(0, 0), 45);
        due("right", x.play(1, 0), 1);
        due("999 at most", x.of(1, 0), 999);
        due("wrong", x.play(2, 0), 0);
        due("999 at most", x.of(2, 1), 999);
        due("led", x.led(0), 4);
    }

    private static void night() {
        promise = 28;
        PractisedWrong x = piece(100, 50, 999, 999, 5, 5);
        x.play(0, 0);
        x.play(0, 0);
        x.play(0, 0);
        // 100 + 8 + 7 + 6: 121 - 20; 50 - 8 + 1
        due("nights", x.night(), 1);
        due("right", x.of(0, 0), 101);
        due("wrong", x.of(0, 1), 43);
        due("999 - 166", x.of(1, 0), 833);
        due("5 - 0", x.of(2, 1), 5);
        due("today", x.of(0, 10), 0);
        due("nights", x.night(), 2);
        due("nothing comes back twice: 43 - 7", x.of(0, 1), 36);
        x.mend(0, 5, 0);
        x.mend(0, 6, 9);
        x.mend(1, 1, 998);
        x.mend(1, 0, 999);
        x.play(1, 0);
        due("nights", x.night(), 3);
        due("999 at most", x.of(1, 1), 999);
        x.mend(0, 5, 12);
        x.night();
        due("all is gone", x.of(1, 0) + x.of(1, 1), 0);
    }

    private static void thursday() {
        promise = 29;
        PractisedWrong x = piece(5, 4, 4, 4, 3, 9);
        x.mend(1, 2, 1);
        due("marks do not count", x.thursday(), 1);
        x.mend(1, 0, 5);
        due("two", x.thursday(), 2);
        due("nothing is added", x.of(0, 0), 5);
        due("no playing", x.of(0, 10), 0);
    }

    private static void led() {
        promise = 30;
        PractisedWrong x = piece(5, 4, 9, 4, 3, 9);
        due("bad", x.led(-1), -1);
        due("bad", x.led(5), -1);
        x.play(0, 0);
        x.play(2, 0);
        x.thursday();
        x.mend(0, 1, 99);
        x.thursday();
        x.night();
        x.play(9, 0);
        int[] want = {2, 1, 1, 2, 2};
        for (int what = 0; what < 5; what++) {
            due("led(" + what + ")", x.led(what), want[what]);
        }
    }

    private static void imageAndBack() {
        promise = 31;
        PractisedWrong x = piece(40, 50);
        x.play(0, 1);
        due("playings", x.image(), 1);
        promise = 32;
        x.play(0, 0);
        x.thursday();
        x.night();
        x.mend(0, 2, 1);
        x.mend(0, 3, 33);
        x.bar(7, 8);
        x.play(1, 1);
        due("playings", x.back(), 1);
        due("right", x.of(0, 0), 46);
        due("wrong", x.of(0, 1), 50);
        due("played", x.of(0, 10), 1);
        due("came right", x.of(0, 11), 1);
        due("marks stay", x.of(0, 2), 1);
        due("slowly stays", x.of(0, 3), 33);
        due("bars that came since stay", x.count(0), 2);
        due("as they are", x.of(1, 0), 13);
        due("as they are", x.of(1, 10), 1);
        int[] want = {1, 1, 0, 0, 0};
        for (int what = 0; what < 5; what++) {
            due("led(" + what + ")", x.led(what), want[what]);
        }
        due("changes stay", x.count(2), 2);
        x.play(0, 0);
        due("laid back again", x.back(), 1);
        due("right", x.of(0, 0), 46);
        x.play(1, 1);
        due("a later image", x.image(), 2);
        x.night();
        due("laid back", x.back(), 2);
        due("with the second bar", x.of(1, 10), 2);
    }

    private static void undoAndRedo() {
        promise = 33;
        PractisedWrong x = piece(40, 50);
        x.mend(0, 0, 41);
        x.mend(0, 0, 41);
        x.mend(0, 5, 3);
        due("telling the same is none", x.count(2), 2);
        due("still", x.undo(), 1);
        due("of", x.of(0, 5), 2);
        x.mend(0, 7, 12);
        promise = 34;
        due("telling the same is none", x.redo(), 0);
        due("of", x.of(0, 5), 3);
        due("none", x.redo(), -5);
        x.undo();
        x.undo();
        due("of", x.of(0, 0), 40);
        due("none", x.undo(), -5);
        due("still", x.redo(), 1);
        x.play(0, 0);
        due("a deed is none", x.redo(), 0);
        x.undo();
        x.mend(0, 4, 0);
        due("another came", x.redo(), -5);
        promise = 33;
        due("still", x.undo(), 1);
        due("of", x.of(0, 4), 10);
        x.mend(0, 1, 900);
        x.play(0, 0);
        due("to what it was", x.undo(), 1);
        due("of", x.of(0, 1), 56);
        for (int i = 1; i <= 45; i++) {
            x.mend(0, 3, 40 + i);
        }
        due("40 at most", x.count(2), 40);
        for (int i = 39; i >= 0; i--) {
            due("still", x.undo(), i);
        }
        due("the oldest are lost", x.undo(), -5);
        due("of", x.of(0, 3), 45);
        promise = 34;
        for (int i = 39; i >= 0; i--) {
            due("still", x.redo(), i);
        }
        due("of", x.of(0, 3), 85);
        forgotten();
    }

    /** What is kept behind forgotten changes still is of its own bar. */
    private static void forgotten() {
        promise = 33;
        PractisedWrong x = piece(0, 0, 0, 0, 0, 0);
        for (int i = 1; i <= 43; i++) {
            x.mend(i % 3, i % 2, i);
        }
        for (int i = 0; i < 40; i++) {
            x.undo();
        }
        // the first three told 1 to bar 1 wrong, 2 to bar 2 right, 3 to bar 0 wrong
        int[] then = {0, 3, 0, 1, 2, 0};
        for (int i = 0; i < 6; i++) {
            due("of(" + i / 2 + ", " + i % 2 + ")", x.of(i / 2, i % 2), then[i]);
        }
        promise = 34;
        for (int i = 4; i <= 43; i++) {
            due("still", x.redo(), 43 - i);
            due("of", x.of(i % 3, i % 2), i);
        }
    }

    private static void body() {
        promise = 35;
        PractisedWrong x = new PractisedWrong();
        due("bad", x.body(8), -1);
        due("bad", x.body(-1), -1);
        for (int i = 0; i < 50; i++) {
            due("body", x.body(i % 8), i);
        }
        due("bad when full", x.body(8), -1);
        due("full", x.body(0), -3);
        due("count", x.count(3), 50);
    }

    private static void act() {
        promise = 36;
        PractisedWrong x = new PractisedWrong();
        for (int kind = 0; kind < 8; kind++) {
            x.body(kind);
        }
        // n is the kind here; x is 10
        int[][] want = {
            {10, 20, 10, 20 - 1},
            {14, 28, 11, 28 - 0},
            {12, -24, 8, -24 - 3},
            {13, -28, 27, -28 - 6},
            {17, 34, 14 - 9, 34 - (5 - 9)},
            {15, -32, 45, (-32 - 12) ^ 5},
            {32, 64, 12, 64 - 7},
            {20, 40 + (5 - 12), 13 - 12, 33 - (6 - 12) - 1},
        };
        for (int kind = 0; kind < 8; kind++) {
            for (int act = 0; act < 4; act++) {
                due("act(" + kind + ", " + act + ", 10)", x.act(kind, act, 10), want[kind][act]);
            }
        }
        due("wraps", x.act(0, 1, 1 << 30), Integer.MIN_VALUE);

        promise = 37;
        x.act(7, 3, 10);
        int[] ran = {81, 2, 80, 10, 20, 1, 50, 11, 20, 1, 50, 11, 20, 1};
        for (int i = 0; i < ran.length; i++) {
            due("trace(" + i + ")", x.trace(i), ran[i]);
        }
        due("count", x.count(4), ran.length);
        due("trace behind", x.trace(ran.length), -1);
        due("trace(-1)", x.trace(-1), -1);
        x.act(5, 3, 0);
        int[] other = {60, 2, 41, 30, 10, 1, 40, 11};
        for (int i = 0; i < other.length; i++) {
            due("trace(" + i + ")", x.trace(i), other[i]);
        }
        due("trace behind", x.trace(other.length), -1);
        promise = 36;
        int[][] none = {{8, 0}, {-1, 0}, {0, 4}, {0, -1}};
        for (int[] bad : none) {
            x.act(0, 0, 1);
            due("no such", x.act(bad[0], bad[1], 5), 0);
            due("no trace then", x.trace(0), -1);
            due("none ran", x.count(4), 0);
        }
    }

    private static void keep() {
        promise = 38;
        PractisedWrong x = new PractisedWrong();
        due("bad shelf", x.keep(6, -1), -1);
        due("bad shelf", x.keep(-1, -1), -1);
        due("bad body", x.keep(0, 0), -1);
        due("bad body", x.keep(0, -2), -1);
        x.body(3);
        due("kept", x.keep(0, 0), 1);
        due("kept", x.taken(0, 3), 3);
        due("nothing", x.keep(0, -1), 1);
        due("nothing", x.taken(0, 3), -11);
        x.row(0, 0, 4);
        due("instead of a row", x.keep(0, 0), 1);
        due("instead of a row", x.put(0, 0, 1), -12);
        x.row(0, 0, 4);
        due("nothing instead of a row", x.keep(0, -1), 1);
        due("nothing instead of a row", x.put(0, 0, 1), -11);
    }

    private static void rowPutElement() {
        promise = 39;
        PractisedWrong x = new PractisedWrong();
        due("bad shelf", x.row(6, 0, -1), -1);
        due("bad sort", x.row(0, 5, -1), -1);
        due("bad sort", x.row(0, -1, 0), -1);
        due("too long", x.row(0, 0, 61), -1);
        due("below 0", x.row(0, 0, -1), -14);
        due("nothing came of it", x.put(0, 0, 0), -11);
        due("none", x.row(0, 0, 0), 1);
        due("none", x.put(0, 0, 0), -13);
        due("60", x.row(5, 3, 60), 1);

        promise = 40;
        due("bad", x.put(6, 0, 0), -1);
        due("below", x.put(5, -1, 0), -13);
        due("behind", x.put(5, 60, 0), -13);
        due("last", x.put(5, 59, Long.MAX_VALUE), 1);

        promise = 41;
        due("last", x.element(5, 59), Long.MAX_VALUE);
        due("first", x.element(5, 0), 0);
        due("bad", x.element(6, 0), Long.MIN_VALUE);
        due("behind", x.element(5, 60), Long.MIN_VALUE);
        due("below", x.element(5, -1), Long.MIN_VALUE);
        due("nothing", x.element(4, 0), Long.MIN_VALUE);
        x.body(0);
        x.keep(4, 0);
        due("a playing", x.element(4, 0), Long.MIN_VALUE);
        long v = 0x123456789ABCDEF0L;
        long[] want = {(byte) v, (short) v, (int) v, v, 1};
        for (int sort = 0; sort < 5; sort++) {
            due("row anew", x.row(5, sort, 60), 1);
            due("0 at first", x.element(5, 59), 0);
            due("put", x.put(5, 59, v), 1);
            due("element", x.element(5, 59), want[sort]);
        }
        x.put(5, 59, 0);
        due("false", x.element(5, 59), 0);
        x.row(5, 0, 1);
        x.put(5, 0, 255);
        due("a byte", x.element(5, 0), -1);
    }

    private static void shift() {
        promise = 42;
        PractisedWrong x = new PractisedWrong();
        x.body(0);
        x.keep(2, 0);
        bytes(x, 0, 1, 2, 3, 4, 5);
        bytes(x, 1, 9, 9, 9);
        due("bad", x.shift(6, 0, 0, 0, 1), -1);
        due("bad", x.shift(0, 0, -1, 0, 1), -1);
        due("nothing", x.shift(5, 0, 2, 0, 1), -11);
        due("nothing", x.shift(2, 0, 5, 0, 1), -11);
        due("no row", x.shift(2, 0, 0, 0, 1), -12);
        due("no row", x.shift(0, 0, 2, 0, 1), -12);
        due("no rows", x.shift(2, 0, 2, 0, 1), -12);
        x.row(3, 4, 5);
        due("unlike sorts", x.shift(0, 0, 3, 0, 99), -12);
        int[][] bad = {{-1, 0, 1}, {0, -1, 1}, {0, 0, 4}, {3, 0, 3}, {0, 1, 3}, {6, 0, 0}, {0, 4, 0}, {0, 0, -1}, {1, 0, Integer.MAX_VALUE}, {Integer.MAX_VALUE, 0, 2}};
        for (int[] b : bad) {
            due("no such place", x.shift(0, b[0], 1, b[1], b[2]), -13);
        }
        due("none of them at the ends", x.shift(0, 5, 1, 3, 0), 0);
        due("two", x.shift(0, 3, 1, 1, 2), 2);
        due("0", x.element(1, 0), 9);
        due("1", x.element(1, 1), 4);
        due("2", x.element(1, 2), 5);
        due("onward", x.shift(0, 0, 0, 1, 4), 4);
        int[] onward = {1, 1, 2, 3, 4};
        for (int i = 0; i < 5; i++) {
            due("as they all were", x.element(0, i), onward[i]);
        }
        due("backward", x.shift(0, 2, 0, 0, 3), 3);
        int[] backward = {2, 3, 4, 3, 4};
        for (int i = 0; i < 5; i++) {
            due("as they all were", x.element(0, i), backward[i]);
        }
    }

    private static void taken() {
        promise = 43;
        PractisedWrong x = new PractisedWrong();
        int[] above = {-1, 0, 0, 2, 1, 3, 0, 4};
        due("bad shelf", x.taken(6, 0), -1);
        due("bad kind", x.taken(0, 8), -1);
        due("bad kind", x.taken(0, -1), -1);
        due("nothing", x.taken(0, 0), -11);
        x.row(0, 0, 1);
        due("a row", x.taken(0, 0), -12);
        for (int kind = 0; kind < 8; kind++) {
            x.keep(0, x.body(kind));
            for (int k = 0; k < 8; k++) {
                boolean under = false;
                for (int at = kind; at >= 0; at = above[at]) {
                    under |= at == k;
                }
                due("taken " + kind + " for " + k, x.taken(0, k), under ? kind : -12);
            }
        }
    }

    private static void count() {
        promise = 44;
        PractisedWrong x = piece(1, 2, 3, 4);
        x.feed(1);
        x.feed(2);
        x.feed(3);
        x.mend(0, 0, 5);
        x.body(0);
        x.body(0);
        x.body(7);
        x.body(0);
        x.act(2, 3, 1);
        int[] want = {2, 3, 1, 4, 14};
        for (int what = 0; what < 5; what++) {
            due("count(" + what + ")", x.count(what), want[what]);
        }
        due("bad", x.count(5), -1);
        due("bad", x.count(-1), -1);
    }
}
