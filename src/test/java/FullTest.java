/** Full: bars, the tape, changes, bodies, the trace, rows, fingers, numbers, what is open at once. */
public final class FullTest {
    private static void says(String words) {
        Told.says(words);
    }

    private static void due(String call, long got, long want) {
        Told.due(call, got, want);
    }

    public static void main(String[] args) {
        bars(); barsFromRows(); piece(); tape(); opened(); digits(); changes(); changesAgain(); bodies(); traces(); rows(); fingers();
        Told.end("full");
    }

    private static void bars() {
        says("A BAR: its number. BAD, FULL: 12.");
        PractisedWrong x = new PractisedWrong();
        for (int b = 0; b < 12; b++) {
            due("bar", x.bar(100 + b, 200 + b), b);
        }
        due("one more", x.bar(1, 1), -3);
        due("and one more", x.bar(0, 0), -3);
        due("count", x.count(0), 12);
        for (int b = 0; b < 12; b++) {
            due("right of " + b, x.of(b, 0), 100 + b);
            due("wrong of " + b, x.of(b, 1), 200 + b);
        }
        due("no thirteenth", x.of(12, 0), -1);
    }

    private static void barsFromRows() {
        says("or BARS are FULL: those ahead came");
        for (int ahead = 0; ahead <= 12; ahead++) {
            PractisedWrong x = new PractisedWrong();
            for (int b = 0; b < ahead; b++) {
                x.bar(1, 1);
            }
            x.row(0, Told.SHORTS, 60);
            for (int i = 0; i < 24; i++) {
                x.put(0, i, 500 + i);
            }
            due("bars behind " + ahead, x.bars(0, 0, 12), 12 - ahead);
            due("count", x.count(0), 12);
            due("no more", x.bars(0, 0, 1), 0);
            if (ahead < 12) {
                due("the first that came", x.of(ahead, 0), 500);
                due("the last that came", x.of(11, 1), 500 + 2 * (11 - ahead) + 1);
            }
        }
    }

    private static PractisedWrong twelve() {
        PractisedWrong x = new PractisedWrong();
        for (int b = 0; b < 12; b++) {
            x.bar(b, 0);
        }
        return x;
    }

    private static void piece() {
        says("how many BARS come RIGHT, which (bits)");
        PractisedWrong x = twelve();
        Told.bytes(x, 0);
        due("all but the first", x.lesson(0, 0), 11);
        due("bits", x.lesson(0, 1), 4094);
        due("the first slip", x.lesson(0, 2), 0);
        Told.bytes(x, 0, 20);
        due("all", x.lesson(0, 0), 12);
        due("bits", x.lesson(0, 1), 4095);
        due("no slip", x.lesson(0, 2), -2);
        says("which are RIGHT then (bits");
        PractisedWrong y = new PractisedWrong();
        for (int b = 0; b < 12; b++) {
            y.bar(0, 0);
        }
        due("0", y.with(0, 1), 0);
        due("11", y.with(11, 1), 2047);
        due("12", y.with(12, 1), 4095);
        due("60", y.with(60, 0), 12);
        due("60", y.with(60, 2), 12);
        says("BARS (bits) it may have been");
        Told.bytes(x, 1);
        due("any", x.which(1), 4095);
        Told.bytes(x, 1, 0);
        due("the first", x.which(1), 1);
        says("the most BARS that came RIGHT in one");
        due("thursday", x.thursday(), 11);
        x.play(0, 1);
        due("thursday", x.thursday(), 12);
        x.mend(11, 0, 0);
        due("thursday", x.thursday(), 11);
        due("the most", x.led(4), 12);
        says("BARS that came RIGHT, all together");
        due("all of 30", x.drawn(1, 30, 1) + x.drawn(1, 30, 0), drawn(x));
    }

    /** By the document's own words, with longs for what wraps. */
    private static int drawn(PractisedWrong x) {
        long z = 1;
        int sum = 0;
        for (int lesson = 0; lesson < 30; lesson++) {
            int came = 0;
            for (int b = 0; b < 12; b++) {
                z = z * 1103515245L + 12345L & 0xFFFFFFFFL;
                long both = x.of(b, 0) + x.of(b, 1);
                came += both == 0 ? (z / 256 % 2 < 1 ? 1 : 0) : z / 256 % both < x.of(b, 0) ? 1 : 0;
            }
            sum += came + (came == 12 ? 1 : 0);
        }
        return sum;
    }

    private static void tape() {
        says("how many it has. BAD, FULL (120).");
        PractisedWrong x = Told.piece(5, 0);
        for (int i = 0; i < 119; i++) {
            due("feed", x.feed(i % 2 == 0 ? '1' : '+'), i + 1);
        }
        due("the last", x.feed('0'), 120);
        due("one more", x.feed('0'), -3);
        due("count", x.count(1), 120);
        // 1+1 .. +10: the last number has two digits
        due("all of it counts", x.law(), 1);
        due("59 and 10", x.playing(0, 0, 1), 69);
        due("empty then", x.feed('1'), 1);
        x.law();

        says("the length, if it ends too early");
        due("120 bytes", Told.tell(x, Told.times("1+", 60)), -220);
        due("119 bytes", Told.tell(x, Told.times("1+", 59) + "-"), -219);
        due("the law stays", x.playing(0, 0, 1), 1);
        says("with which no TEXT goes on");
        due("the last of 120", Told.tell(x, Told.times("1+", 59) + "1R"), -219);
        due("the law stays", x.playing(0, 0, 1), 1);
        PractisedWrong y = Told.piece(5, 0);
        due("60 lines", Told.tell(y, Told.times("0?1;", 29) + "0?7;"), -220);
        due("30 lines", Told.tell(y, Told.times("0?1;", 29) + "1?42"), 1);
        due("the last counts", y.playing(0, 0, 1), 42);
        due("59 lines and a half", Told.tell(y, Told.times("8;", 59) + "99"), 1);
        due("the first counts", y.playing(0, 0, 1), 8);
    }

    private static void opened() {
        says("At most 6 of ( ! - ahead of an O are open at once.");
        PractisedWrong x = Told.piece(5, 0);
        for (String open : new String[] {"!", "-"}) {
            for (int n = 0; n <= 6; n++) {
                due(n + " of " + open, Told.tell(x, Told.times(open, n) + "7"), 1);
            }
            due("even many of " + open, Told.tell(x, Told.times(open, 6) + "7") * 10 + x.playing(0, 0, 1), open.equals("!") ? 11 : 17);
            due("7 of " + open, Told.tell(x, Told.times(open, 7) + "7"), -106);
            due("8 of " + open, Told.tell(x, Told.times(open, 8) + "7"), -106);
        }
        for (int n = 0; n <= 6; n++) {
            due(n + " of (", Told.tell(x, Told.times("(", n) + "7" + Told.times(")", n)), 1);
        }
        due("7 of (", Told.tell(x, "(((((((7)))))))"), -106);
        due("mixed, 6", Told.tell(x, "(!-(!-7))"), 1);
        due("mixed, 7 by (", Told.tell(x, "(!-(!-(7)))"), -106);
        due("mixed, 7 by !", Told.tell(x, "(!-(!-!7))"), -106);
        due("mixed, 7 by -", Told.tell(x, "(!-(!--7))"), -106);
        due("closed behind its O: !", Told.tell(x, "!!!!!!1+!!!!!!1"), 1);
        due("closed behind its O: -", Told.tell(x, "------1*------1"), 1);
        due("closed behind its O: (", Told.tell(x, "((((((1))))))-((((((1))))))"), 1);
        due("( stays open over what is in it", Told.tell(x, "(!!!!!1+!!!!!1)"), 1);
        due("( stays open over what is in it", Told.tell(x, "(!!!!!1+!!!!!!1)"), -113);
        due("a joining - is none", Told.tell(x, "(((((1-1-1-1-1-1-1-1-1-1)))))"), 1);
        due("a joining - ahead of 6", Told.tell(x, "1-------1"), 1);
        due("a joining - ahead of 7", Told.tell(x, "1--------1"), -108);
        due("behind ?", Told.tell(x, "!!!!!!1?------1"), 1);
        due("behind ?", Told.tell(x, "!!!!!!1?-------1"), -114);
        due("behind ;", Told.tell(x, "!!!!!!1;!!!!!!1"), 1);
        due("behind ;", Told.tell(x, "!!!!!!1;!!!!!!!1"), -114);
        // six open, and on each level of it a number waits for the one behind
        String deep = "1|0&1=0+1*(";
        due("all that can wait", Told.tell(x, Told.times(deep, 6) + "1|0&1=0+1*5" + Told.times(")", 6)), 1);
        // 0+1*5 is 5, 1=5 is 0, 0&0 is 0, 1|0 is 1; then 0+1*1 is 1, 1=1 is 1, 0&1 is 0, 1|0 is 1
        due("and its worth", x.playing(0, 0, 1), 1);
        due("summed", Told.tell(x, "1+2*(1+2*(1+2*(1+2*(1+2*(1+2*(1))))))") * 1000 + x.playing(0, 0, 1), 1000 + 99);
        due("summed, below 99", Told.tell(x, "1+1*(2+1*(3+1*(4+1*(5+1*(6+1*(7))))))") * 1000 + x.playing(0, 0, 1), 1000 + 28);
    }

    private static void digits() {
        says("a number (1 to 4 digits)");
        PractisedWrong x = Told.piece(5, 0);
        String[] texts = {"0", "9", "10", "99", "099", "0000", "0009", "9-2", "100-30", "1000-990", "9999-9998", "9999/9999"};
        int[] want = {0, 9, 10, 99, 99, 0, 9, 7, 70, 10, 1, 1};
        for (int i = 0; i < texts.length; i++) {
            due("law " + texts[i], Told.tell(x, texts[i]), 1);
            due("worth " + texts[i], x.playing(0, 0, 1), want[i]);
        }
        due("five digits", Told.tell(x, "10000"), -104);
        due("five digits of 0", Told.tell(x, "00000"), -104);
        due("five digits behind", Told.tell(x, "1+12345"), -106);
        due("the law stays", x.playing(0, 0, 1), 1);
    }

    private static void changes() {
        says("CHANGES (all numbers of mend(); telling the same number is none) can be UNDONE, the latest first");
        PractisedWrong x = Told.piece(40, 50);
        int[] told = {41, 51, 1, 21, 11, 3, 2, 13}, was = {40, 50, 0, 20, 10, 2, 1, 12};
        for (int what = 0; what < 8; what++) {
            due("mend", x.mend(0, what, told[what]), was[what]);
            due("count", x.count(2), what + 1);
            due("the same again", x.mend(0, what, told[what]), told[what]);
            due("is none", x.count(2), what + 1);
        }
        for (int what = 7; what >= 0; what--) {
            due("undo", x.undo(), what);
            due("of " + what, x.of(0, what), was[what]);
            due("those ahead stay", x.of(0, Math.max(0, what - 1)), what > 0 ? told[what - 1] : was[0]);
        }
        says("and DONE AGAIN (as long as no other came behind)");
        for (int what = 0; what < 8; what++) {
            due("redo", x.redo(), 7 - what);
            due("of " + what, x.of(0, what), told[what]);
            due("count", x.count(2), what + 1);
        }
    }

    private static void changesAgain() {
        says("40 at most are kept; deeds are none");
        for (int more = -1; more <= 2; more++) {
            PractisedWrong x = new PractisedWrong();
            int all = 40 + more;
            for (int i = 1; i <= all; i++) {
                x.mend(0, 3, 30 + i);
                due("count", x.count(2), Math.min(40, i));
            }
            int kept = Math.min(40, all);
            for (int i = kept - 1; i >= 0; i--) {
                due("undo of " + all, x.undo(), i);
            }
            due("no more", x.undo(), -5);
            due("of behind " + all, x.of(0, 3), more > 0 ? 30 + more : 20);
            for (int i = kept - 1; i >= 0; i--) {
                due("redo of " + all, x.redo(), i);
            }
            due("no more", x.redo(), -5);
            due("of", x.of(0, 3), 30 + all);
        }
        ofTheirOwn();
        PractisedWrong x = Told.piece(40, 50);
        for (int i = 1; i <= 40; i++) {
            x.mend(0, 3, 30 + i);
        }
        x.play(0, 0);
        x.thursday();
        x.night();
        x.image();
        x.back();
        x.bar(1, 1);
        Told.tell(x, "1");
        due("deeds are none", x.count(2), 40);
        due("none is lost for them", x.undo(), 39);
        x.undo();
        x.mend(0, 4, 77);
        due("another one behind 38", x.count(2), 39);
        due("those undone are gone", x.redo(), -5);
    }

    /** Behind forgotten ones each still is of its own bar and number: 41 and 45 over 11 bars, their RIGHT and WRONG by turns. */
    private static void ofTheirOwn() {
        for (int all = 41; all <= 45; all += 4) {
            PractisedWrong x = new PractisedWrong();
            for (int b = 0; b < 11; b++) {
                x.bar(0, 0);
            }
            for (int i = 1; i <= all; i++) {
                x.mend(i % 11, i / 11 % 2, i);
            }
            for (int i = all; i > all - 40; i--) {
                // the same bar's same number was told 22 changes ahead
                int was = i > 22 ? i - 22 : 0;
                due("undo", x.undo(), i - 1 - (all - 40));
                due("of change " + i, x.of(i % 11, i / 11 % 2), was);
            }
            for (int i = all - 39; i <= all; i++) {
                due("redo", x.redo(), all - i);
                due("of change " + i, x.of(i % 11, i / 11 % 2), i);
            }
        }
    }

    private static void bodies() {
        says("PLAYINGS' ways are kept by call as BODIES 0 .. 49");
        PractisedWrong x = new PractisedWrong();
        for (int i = 0; i < 50; i++) {
            due("body", x.body(i % 8), i);
        }
        due("one more", x.body(0), -3);
        due("and one more", x.body(7), -3);
        due("count", x.count(3), 50);
        due("the last is its kind", x.keep(0, 49) * 10 + x.taken(0, 0), 11);
        due("no fiftieth", x.keep(0, 50), -1);
        says("n its number");
        due("plays of the first", x.act(0, 0, 100), 100);
        due("plays of the last, slow", x.act(49, 0, 100), 100 + 49 + 3);
        due("no fiftieth", x.act(50, 0, 100), 0);
    }

    private static void traces() {
        says("the first 24 are kept");
        // no act runs as many as 24: the longest has 14, and all of it is kept and counted
        PractisedWrong x = new PractisedWrong();
        int most = 0;
        for (int kind = 0; kind < 8; kind++) {
            x.body(kind);
            for (int act = 0; act < 4; act++) {
                x.act(kind, act, 9);
                int ran = x.count(4);
                most = Math.max(most, ran);
                due("the first is kept", x.trace(0) > 0 ? 1 : 0, 1);
                due("the last is kept", x.trace(ran - 1) > 0 ? 1 : 0, 1);
                due("no more", x.trace(ran), -1);
            }
        }
        due("the longest", most, 14);
        says("4 bodies that ran in the latest act() (all, kept or not)");
        // those of tells are its own, those of adds and those of fades
        int[][] ran = {{1, 2, 1, 4}, {2, 3, 1, 5}, {1, 3, 1, 5}, {1, 4, 2, 7}, {2, 3, 4, 8}, {1, 4, 2, 8}, {2, 3, 1, 5}, {2, 8, 4, 14}};
        for (int kind = 0; kind < 8; kind++) {
            for (int act = 0; act < 4; act++) {
                x.act(kind, act, 9);
                due("count(4) of " + kind + ", " + act, x.count(4), ran[kind][act]);
            }
        }
    }

    private static void rows() {
        says("of 0 .. 60 elements");
        for (int sort = 0; sort <= 4; sort++) {
            PractisedWrong x = new PractisedWrong();
            due("row", x.row(0, sort, 60), 1);
            for (int i = 0; i < 60; i++) {
                due("at first", x.element(0, i), 0);
                due("put", x.put(0, i, sort == 4 ? i % 3 : i + 1), 1);
            }
            for (int i = 0; i < 60; i++) {
                due("element " + i, x.element(0, i), sort == 4 ? (i % 3 > 0 ? 1 : 0) : i + 1);
            }
            due("behind the last", x.put(0, 60, 1), -13);
            x.row(1, sort, 60);
            due("all of them", x.shift(0, 0, 1, 0, 60), 60);
            due("the last", x.element(1, 59), sort == 4 ? 1 : 60);
            due("one too many", x.shift(0, 0, 1, 0, 61), -13);
            due("a row anew", x.row(0, sort, 60), 1);
            for (int i = 0; i < 60; i++) {
                due("0 at first: " + i, x.element(0, i), 0);
            }
        }
        says("anything else, also what lacks: not heard");
        PractisedWrong y = Told.lasting(0, 29);
        Told.tell(y, "1");
        y.row(0, Told.BYTES, 60);
        for (int i = 0; i < 60; i++) {
            y.put(0, i, i % 2 == 0 ? 20 : 0);
        }
        // slow it has 20 against 29: 30 and on behind 29 times wrong
        due("30 twos are so", y.judge(0), -2);
        due("the least", y.wrongFor(0, 0, 0), 20);
        y.put(0, 59, 1);
        due("the last two is not so", y.judge(0), 29);
        says("how ONE BAR came, played, not slow, day by day (one a day, a NIGHT behind each; 1, 0; else not heard)");
        PractisedWrong z = Told.lasting(0, 29, 59, 0, 60, 0);
        Told.tell(z, "1");
        z.row(0, Told.BYTES, 60);
        due("60 days wrong", z.which(0), 1);
        for (int i = 0; i < 60; i++) {
            z.put(0, i, 9);
        }
        due("60 days not heard", z.which(0), 7);
        z.put(0, 59, 1);
        due("right on the last", z.which(0), 6);
    }

    private static void fingers() {
        says("to RIGHT, if it came so, else to WRONG (999 at most each)");
        PractisedWrong x = Told.piece(999, 998, 998, 999);
        due("right", x.play(0, 0), 1);
        due("stays", x.of(0, 0), 999);
        due("wrong", x.play(1, 0), 0);
        due("stays", x.of(1, 1), 999);
        says("in thought: 0 .. 11 a BAR played");
        Told.bytes(x, 0, 0, 1, 0, 1);
        due("right then", x.plan(0, 0, 0), 999);
        due("wrong then", x.plan(0, 1, 1), 999);
        says("then what the other one played is added to one's own, too: by half (cut)");
        PractisedWrong y = Told.lasting(999, 0, 0, 999);
        Told.tell(y, "99");
        // a hears 49 wrong; b hears 49 right
        due("a", y.hearing(1, 1, 0), 999 - 49);
        due("b", y.hearing(1, 1, 1), 49 - 999);
        due("a by itself", y.hearing(0, 30, 0), 999);
        due("b by itself", y.hearing(101, 30, 1), -999);
        PractisedWrong z = Told.lasting(951, 0);
        Told.tell(z, "33");
        due("33 and 16 are held", z.hearing(0, 1, 0), 999);
        z.mend(0, 0, 949);
        due("949 and 33 and 16", z.hearing(0, 1, 0), 998);
        says("times RIGHT by both (cut");
        due("a million of 999", Told.piece(999, 999, 999, 0).all(), 500000);
        due("999 of all", Told.piece(999, 0, 999, 0, 999, 0, 999, 0, 999, 0, 999, 0, 999, 0, 999, 0, 999, 0, 999, 0, 999, 0, 999, 0).all(), 1000000);
    }
}
