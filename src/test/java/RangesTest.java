/** Too small, too large: each range of the document at its least and its greatest number, and one beyond each. */
public final class RangesTest {
    private static final int LEAST = Told.LEAST, GREATEST = Told.GREATEST, VOID = Told.VOID;

    private interface Asked {
        long with(int v);
    }

    private static void says(String words) {
        Told.says(words);
    }

    private static void due(String call, long got, long want) {
        Told.due(call, got, want);
    }

    /** One beyond each end, and the ends of the ints themselves. */
    private static void beyond(String call, int least, int greatest, long refusal, Asked asked) {
        int[] out = {least - 1, greatest + 1, LEAST, LEAST + 1, GREATEST - 1, GREATEST};
        for (int v : out) {
            due(call + " with " + v, asked.with(v), refusal);
        }
    }

    /** No number of the range is refused. */
    private static void within(String call, int least, int greatest, long refusal, Asked asked) {
        for (int v = least; v <= greatest; v++) {
            due(call + " with " + v + " is taken", asked.with(v) == refusal ? 0 : 1, 1);
        }
    }

    public static void main(String[] args) {
        fingers(); marked(); habits(); barNumbers(); whats(); tape(); adds(); nights();
        barsFromARow(); planBytes(); kth(); timesAndStays(); withSpread(); spreadAlike(); stopFingerWhole(); wholeOfTwelve();
        hearingAndDrawn(); heard(); acts(); rows(); places(); shelves();
        Told.end("ranges");
    }

    private static PractisedWrong twelve() {
        PractisedWrong x = new PractisedWrong();
        for (int b = 0; b < 12; b++) {
            x.bar(40 + b, 50);
        }
        return x;
    }

    private static void fingers() {
        says("RIGHT, WRONG (0 .. 999 each: how much is in the fingers)");
        PractisedWrong x = new PractisedWrong();
        beyond("bar(.., 0)", 0, 999, -1, v -> x.bar(v, 0));
        beyond("bar(0, ..)", 0, 999, -1, v -> x.bar(0, v));
        due("none came", x.count(0), 0);
        due("the least", x.bar(0, 0), 0);
        due("the greatest", x.bar(999, 999), 1);
        int[] want = {0, 0, 999, 999};
        for (int i = 0; i < 4; i++) {
            due("of(" + i / 2 + ", " + i % 2 + ")", x.of(i / 2, i % 2), want[i]);
        }
        says("RIGHT (what 0), WRONG (1), MARKED (2) of a BAR");
        for (int what = 0; what <= 1; what++) {
            int w = what;
            beyond("mend(0, " + w + ", ..)", 0, 999, -1, v -> x.mend(0, w, v));
            due("as it was", x.of(0, w), 0);
            due("the greatest", x.mend(0, w, 999), 0);
            due("the least", x.mend(0, w, 0), 999);
        }
        beyond("mend(0, 2, ..)", 0, 1, -1, v -> x.mend(0, 2, v));
    }

    private static void marked() {
        says("MARKED (0, 1; 0 at first)");
        PractisedWrong x = Told.piece(1, 2, 3, 4);
        due("at first", x.of(0, 2), 0);
        due("one more", x.mend(0, 2, 2), -1);
        due("one less", x.mend(0, 2, -1), -1);
        due("1", x.mend(0, 2, 1), 0);
        due("of", x.of(0, 2), 1);
        due("the other is not", x.of(1, 2), 0);
        due("0", x.mend(0, 2, 0), 1);
        due("of", x.of(0, 2), 0);
    }

    private static void habits() {
        habit("SLOWLY (0 .. 99; 20 at first)", 3, 20, 99);
        habit("MARK (0 .. 99; 10 at first)", 4, 10, 99);
        habit("FADES (0 .. 12; 2 at first)", 5, 2, 12);
        habit("BACK (0 .. 9; 1 at first)", 6, 1, 9);
        habit("FINGER (0 .. 99; 12 at first", 7, 12, 99);

        says("if RIGHT, SLOWLY if slow, and MARK if MARKED, are more together than WRONG; else WRONG");
        PractisedWrong x = Told.piece(0, 98, 0, 99, 1, 199, 2, 199);
        x.mend(0, 3, 99);
        x.mend(0, 4, 99);
        x.mend(2, 2, 1);
        x.mend(3, 2, 1);
        due("99 are more than 98", x.playing(0, 1, 0), 1);
        due("99 are not more than 99", x.playing(1, 1, 0), 0);
        due("without slowly", x.playing(0, 0, 0), 0);
        due("199 are not more than 199", x.playing(2, 1, 0), 0);
        due("200 are more than 199", x.playing(3, 1, 0), 1);
        due("a mark alone", x.playing(3, 0, 0), 0);
        x.mend(0, 3, 0);
        x.mend(0, 4, 0);
        x.mend(0, 1, 0);
        due("0 are not more than 0", x.playing(0, 1, 0), 0);
        x.mend(0, 0, 1);
        due("1 is more than 0", x.playing(0, 0, 0), 1);
    }

    private static void habit(String words, int what, int first, int greatest) {
        says(words);
        PractisedWrong x = new PractisedWrong();
        due("at first", x.of(0, what), first);
        beyond("mend(0, " + what + ", ..)", 0, greatest, -1, v -> x.mend(0, what, v));
        due("as it was", x.of(0, what), first);
        due("the greatest", x.mend(0, what, greatest), first);
        due("of", x.of(0, what), greatest);
        due("the least", x.mend(0, what, 0), greatest);
        due("of", x.of(0, what), 0);
        beyond("mend(.., " + what + ", 1)", 0, 0, -1, n -> x.mend(n, what, 1));
        beyond("of(.., " + what + ")", 0, 0, -1, n -> x.of(n, what));
        due("of", x.of(0, what), 0);
    }

    private static void barNumbers() {
        says("======== 1 BARS 0 .. 11, as they come");
        PractisedWrong x = new PractisedWrong();
        Told.bytes(x, 0);
        for (int b = 0; b < 12; b++) {
            int last = b;
            due("bar", x.bar(40 + b, 50), b);
            due("not yet", x.of(b + 1, 0), -1);
            due("as it came", x.of(last, 0), 40 + b);
        }
        PractisedWrong y = twelve();
        Told.bytes(y, 0);
        String[] names = {"mend", "of", "of 10", "of 11", "playing", "plan", "times", "stays", "wrongFor", "play", "spread", "finger", "odds", "hearing"};
        long[] refusals = {-1, -1, -1, -1, -1, -1, -1, -1, -1, -1, VOID, VOID, Long.MIN_VALUE, VOID};
        Asked[] calls = {b -> y.mend(b, 0, 45), b -> y.of(b, 0), b -> y.of(b, 10), b -> y.of(b, 11), b -> y.playing(b, 0, 0), b -> y.plan(0, b, 0),
            b -> y.times(b, 1), b -> y.stays(b), b -> y.wrongFor(0, b, 0), b -> y.play(b, 0), b -> y.spread(b, 11, -1), b -> y.finger(b, 1),
            b -> y.odds(b, 0), b -> y.hearing(b, 1, 0)};
        for (int i = 0; i < calls.length; i++) {
            beyond(names[i], 0, 11, refusals[i], calls[i]);
            within(names[i], 0, 11, refusals[i], calls[i]);
        }
    }

    private static void whats() {
        PractisedWrong x = Told.piece(40, 50, 60, 10);
        Told.bytes(x, 0, 0, 1);
        what("how it comes (what 0), what it adds (1)", 1, -1, w -> x.playing(0, 0, w));
        what("RIGHT (what 0), WRONG (1) of a BAR behind a PLAN", 1, -1, w -> x.plan(0, 0, w));
        what("how many (what 0), which (1), the first SLIP (2; NOT), how many PLAYINGS came RIGHT (3), how many bytes count (4)", 4, -1, w -> x.lesson(0, w));
        what("how many (what 0), which (1), how many PLAYINGS (2). BAD", 2, -1, w -> x.with(9, w));
        what("1, 0 (what 0), how many fewer (1; below 0: more)", 1, VOID, w -> x.finger(0, w));
        what("WHOLE (what 0), BY BARS (1)", 1, -1, w -> x.whole(w));
        what("part 0 above, 1 below the line; Long.MIN_VALUE: BAD", 1, Long.MIN_VALUE, w -> x.odds(0, w));
        what("the least (what 0), the greatest (1)", 1, -1, w -> x.wrongFor(0, 0, w));
        what("a (what 0), b (1), the day (2; NOT)", 2, VOID, w -> x.hearing(1, 1, w));
        what("LESSONS (what 0), BARS (1). BAD", 1, -1, w -> x.drawn(1, 1, w));
        what("PLAYINGS (what 0), RIGHT ones (1), NIGHTS (2), LESSONS (3), the most (4). BAD", 4, -1, w -> x.led(w));
        what("0 BARS, 1 bytes on THE TAPE, 2 changes that may be UNDONE, 3 BODIES, 4 bodies that ran in the latest act()", 4, -1, w -> x.count(w));

        says("A PLAYING of a BAR, slow (1) or not (0)");
        beyond("playing", 0, 1, -1, s -> x.playing(0, s, 0));
        beyond("times", 0, 1, -1, s -> x.times(0, s));
        beyond("play", 0, 1, -1, s -> x.play(0, s));
        due("nothing was played", x.led(0), 0);
        within("playing", 0, 1, -1, s -> x.playing(0, s, 0));
        within("times", 0, 1, -1, s -> x.times(0, s));
        within("play", 0, 1, -1, s -> x.play(0, s));

        says("As of mend() (0 to 7); of a BAR 10 how many times played, 11 came RIGHT, today. BAD.");
        int[] none = {-1, 8, 9, 12, 13, LEAST, GREATEST};
        for (int w : none) {
            due("of(0, " + w + ")", x.of(0, w), -1);
            due("mend(0, " + w + ", 0)", x.mend(0, w, 0), -1);
        }
        due("mend(0, 10, 0)", x.mend(0, 10, 0), -1);
        due("mend(0, 11, 0)", x.mend(0, 11, 0), -1);
        due("of(0, 10)", x.of(0, 10), 2);
        due("of(0, 11)", x.of(0, 11), 1);
    }

    private static void what(String words, int greatest, long refusal, Asked asked) {
        says(words);
        beyond("what", 0, greatest, refusal, asked);
        within("what", 0, greatest, refusal, asked);
    }

    private static void tape() {
        says("A byte (0 .. 255) comes to THE TAPE: how many it has");
        PractisedWrong x = new PractisedWrong();
        beyond("feed", 0, 255, -1, v -> x.feed(v));
        due("none came", x.count(1), 0);
        due("the least", x.feed(0), 1);
        due("the greatest", x.feed(255), 2);
        int[] none = {0, 1, 32, 127, 128, 'r' + 128, 255};
        for (int letter : none) {
            PractisedWrong y = new PractisedWrong();
            y.feed(letter);
            due("a text of " + letter, y.law(), -100);
            y.feed('r');
            y.feed(letter);
            due("behind r: " + letter, y.law(), -101);
        }
    }

    private static void adds() {
        says("how much a PLAYING adds (held within 0 .. 99) to RIGHT, if it came so, else to WRONG (999 at most each)");
        String[] texts = {"0-1", "0", "1", "98", "99", "100", "9999", "0-9999", "9999*9999*22"};
        int[] want = {0, 0, 1, 98, 99, 99, 99, 0, 0};
        for (int i = 0; i < texts.length; i++) {
            PractisedWrong x = Told.piece(500, 400, 400, 500);
            Told.tell(x, texts[i]);
            due("adds " + texts[i], x.playing(0, 0, 1), want[i]);
            due("adds " + texts[i], x.playing(1, 0, 1), want[i]);
            x.play(0, 0);
            x.play(1, 0);
            due("to right", x.of(0, 0), 500 + want[i]);
            due("not to wrong", x.of(0, 1), 400);
            due("not to right", x.of(1, 0), 400);
            due("to wrong", x.of(1, 1), 500 + want[i]);
        }
        PractisedWrong x = Told.piece(899, 0, 900, 0, 901, 0, 999, 0, 0, 899, 0, 900, 0, 901, 0, 999);
        Told.tell(x, "99");
        int[] then = {998, 999, 999, 999};
        for (int b = 0; b < 4; b++) {
            x.play(b, 0);
            x.play(b + 4, 0);
            due("right " + b, x.of(b, 0), then[b]);
            due("wrong " + b, x.of(b + 4, 1), then[b]);
        }

        says("Without a text: 6 and 2 q less 2 s less n, 1 at least.");
        PractisedWrong y = Told.piece(0, 999, 999, 0);
        int[] wrongOnes = {6, 5, 4, 3, 2, 1, 1, 1, 1, 1}, rightSlow = {6, 5, 4, 3, 2, 1, 1, 1}, right = {8, 7, 6, 5, 4, 3, 2, 1, 1}, wrongSlow = {4, 3, 2, 1, 1, 1};
        for (int n = 0; n < 10; n++) {
            if (n < wrongOnes.length) due("wrong, " + n + " ahead", y.playing(0, 0, 1), wrongOnes[n]);
            if (n < wrongSlow.length) due("wrong, slow, " + n + " ahead", y.playing(0, 1, 1), wrongSlow[n]);
            if (n < right.length) due("right, " + n + " ahead", y.playing(1, 0, 1), right[n]);
            if (n < rightSlow.length) due("right, slow, " + n + " ahead", y.playing(1, 1, 1), rightSlow[n]);
            y.play(0, 0);
            y.play(1, 0);
        }
    }

    private static void nights() {
        says("of each BAR RIGHT and WRONG are less by FADES twelfths (each cut)");
        int[] from = {0, 1, 5, 6, 11, 12, 13, 999};
        int[] fades = {0, 1, 2, 11, 12};
        int[][] then = {from, {0, 1, 5, 6, 11, 11, 12, 916}, {0, 1, 5, 5, 10, 10, 11, 833}, {0, 1, 1, 1, 1, 1, 2, 84}, {0, 0, 0, 0, 0, 0, 0, 0}};
        for (int f = 0; f < fades.length; f++) {
            PractisedWrong x = new PractisedWrong();
            x.mend(0, 5, fades[f]);
            for (int b = 0; b < from.length; b++) {
                x.bar(from[b], from[from.length - 1 - b]);
            }
            x.night();
            for (int b = 0; b < from.length; b++) {
                due("right " + from[b] + " less by " + fades[f], x.of(b, 0), then[f][b]);
                due("wrong, less by " + fades[f], x.of(b, 1), then[f][from.length - 1 - b]);
            }
        }

        says("then WRONG is more by BACK times the times it came RIGHT that day by 2 (cut; 999 at most)");
        int[] back = {0, 1, 1, 1, 9, 9, 3};
        int[] plays = {5, 0, 1, 3, 1, 2, 3};
        int[] more = {0, 0, 0, 1, 4, 9, 4};
        for (int i = 0; i < back.length; i++) {
            PractisedWrong x = Told.piece(999, 24, 999, 995, 0, 24, 999, 988);
            x.mend(0, 5, 0);
            x.mend(0, 6, back[i]);
            for (int b = 0; b < 4; b++) {
                for (int k = 0; k < plays[i]; k++) {
                    x.play(b, 0);
                }
            }
            int wrong = x.of(2, 1);
            x.night();
            due("came right " + plays[i] + " times, back " + back[i], x.of(0, 1), 24 + more[i]);
            due("999 at most", x.of(1, 1), Math.min(999, 995 + more[i]));
            due("came wrong", x.of(2, 1), wrong);
            due("up to it", x.of(3, 1), 988 + more[i]);
        }
        says("then WRONG is more");
        // 999 less 166 is 833, and 9 more; what is brought back is not taken off again
        PractisedWrong x = Told.piece(999, 998);
        x.mend(0, 6, 9);
        x.play(0, 0);
        x.play(0, 0);
        x.night();
        due("998 less 166, then 9 more", x.of(0, 1), 841);
        says("How many times it was played, came RIGHT that day, is 0 then.");
        due("played", x.of(0, 10), 0);
        due("came right", x.of(0, 11), 0);
    }

    private static void barsFromARow() {
        says("BARS FROM A ROW on a SHELF, from place i on, n (1 .. 12) of them");
        PractisedWrong x = new PractisedWrong();
        x.row(0, Told.SHORTS, 60);
        beyond("bars(0, 0, ..)", 1, 12, -1, n -> x.bars(0, 0, n));
        due("none came", x.count(0), 0);
        due("the least", x.bars(0, 0, 1), 1);
        due("one", x.count(0), 1);
        PractisedWrong y = new PractisedWrong();
        y.row(0, Told.SHORTS, 60);
        due("the greatest", y.bars(0, 0, 12), 12);

        says("BARS FROM A ROW of shorts, from a place on");
        for (int i : new int[] {LEAST, LEAST + 1, -2, -1, 3, 4, 5, GREATEST - 1, GREATEST}) {
            PractisedWrong z = new PractisedWrong();
            Told.row(z, 0, Told.SHORTS, 1, 2, 3, 4);
            due("from " + i, z.bars(0, i, 12), 0);
            due("none came", z.count(0), 0);
        }
        int[] came = {2, 1, 1};
        for (int i = 0; i < 3; i++) {
            PractisedWrong z = new PractisedWrong();
            Told.row(z, 0, Told.SHORTS, 1, 2, 3, 4);
            due("from " + i, z.bars(0, i, 12), came[i]);
            due("right", z.of(0, 0), i + 1);
            due("wrong", z.of(0, 1), i + 2);
        }

        says("it ends where the row is missing, ends (within a two, too), one is not so, or BARS are FULL: those ahead came");
        int[] bad = {-1, 1000, Short.MIN_VALUE, Short.MAX_VALUE};
        for (int v : bad) {
            for (int place = 0; place < 6; place++) {
                PractisedWrong z = new PractisedWrong();
                Told.row(z, 0, Told.SHORTS, 0, 999, 0, 999, 0, 999);
                z.put(0, place, v);
                due(v + " at " + place, z.bars(0, 0, 12), place / 2);
                due("those ahead", z.count(0), place / 2);
            }
        }
    }

    private static void planBytes() {
        says("0 .. 11 a BAR played, 20 .. 31 BAR 0 .. 11 slow, 60 a NIGHT; anything else (a BAR that is none, too) ends it");
        PractisedWrong x = twelve();
        for (int v = -128; v <= 127; v++) {
            boolean isBar = v >= 0 && v <= 11, isSlow = v >= 20 && v <= 31, isNight = v == 60;
            Told.bytes(x, 0, v);
            due("bytes of " + v, x.lesson(0, 4), isBar || isSlow || isNight ? 1 : 0);
            // an object is good for 512 calls
            if (v % 64 == 63) {
                x = twelve();
            }
        }
        PractisedWrong y = twelve();
        int[] ends = {0, 11, 20, 31};
        for (int v : ends) {
            Told.bytes(y, 0, v);
            int b = v % 20;
            // 40 + b are no more than 50 without slowly but for bar 11, which has 51
            int comes = v >= 20 || b == 11 ? 1 : 0;
            due("came " + v, y.came(0, 0), comes);
            due("right of " + b, y.plan(0, b, 0), 40 + b + (comes == 1 ? (v >= 20 ? 6 : 8) : 0));
            due("wrong of " + b, y.plan(0, b, 1), comes == 1 ? 50 : 56);
        }
        PractisedWrong z = Told.piece(1, 1, 1, 1, 1, 1);
        int[] none = {3, 11, 23, 31};
        for (int v : none) {
            Told.bytes(z, 0, 20, v, 20);
            due("a bar that is none, " + v, z.lesson(0, 4), 1);
            due("right", z.plan(0, 0, 0), 7);
        }
        for (int v : new int[] {2, 22}) {
            Told.bytes(z, 0, 20, v, 20);
            due("the last bar, " + v, z.lesson(0, 4), 3);
        }

        says("a ROW of bytes on a SHELF (60 at most), from now, in thought");
        PractisedWrong w = Told.lasting(0, 0);
        Told.tell(w, "1");
        w.row(0, Told.BYTES, 60);
        for (int i = 0; i < 60; i++) {
            w.put(0, i, 20);
        }
        due("all 60 count", w.lesson(0, 4), 60);
        due("all 60 come right", w.lesson(0, 3), 60);
        due("right then", w.plan(0, 0, 0), 60);
        due("the last", w.came(0, 59), 1);
        due("in thought", w.of(0, 0), 0);
        due("in thought", w.of(0, 10), 0);
    }

    private static void kth() {
        says("How the k-th came. BAD, -11, -12; NOT (a NIGHT, or there are not as many).");
        PractisedWrong x = Told.piece(40, 50);
        Told.bytes(x, 0, 20, 0, 60, 20, 99, 20);
        int[] want = {1, 0, -2, 1, -2, -2, -2};
        for (int k = 0; k < want.length; k++) {
            due("came(0, " + k + ")", x.came(0, k), want[k]);
        }
        for (int k : new int[] {59, 60, 61, GREATEST - 1, GREATEST}) {
            due("came(0, " + k + ")", x.came(0, k), -2);
        }
        for (int k : new int[] {-1, -2, LEAST + 1, LEAST}) {
            due("came(0, " + k + ")", x.came(0, k), -1);
        }
    }

    private static void timesAndStays() {
        says("till it comes RIGHT in a LESSON (0 .. 99); NOT.");
        // slow and with a mark it always comes right here, 1 more each
        PractisedWrong x = Told.piece(1, 0, 0, 0, 0, 97, 0, 98, 0, 99, 0, 100);
        x.mend(0, 3, 99);
        x.mend(0, 4, 99);
        for (int b = 0; b < 6; b++) {
            x.mend(b, 2, 1);
        }
        Told.tell(x, "1");
        int[] want = {0, 1, 98, 99, -2, -2};
        for (int b = 0; b < 6; b++) {
            due("times(" + b + ", 1)", x.times(b, 1), want[b]);
        }
        due("by a mark alone: 99 are more than 98", x.times(3, 0), 99);
        due("by a mark alone: 99 are not more than 99", x.times(4, 0), -2);
        due("all of it in thought", x.of(3, 10), 0);

        says("for how many NIGHTS (0 .. 99), unplayed, a BAR comes RIGHT in a LESSON (as long as it does; 99 at most); NOT: not even now");
        PractisedWrong y = Told.piece(5, 4, 5, 5, 4, 5, 999, 11, 12, 11, 13, 11);
        y.mend(0, 5, 1);
        due("for ever", y.stays(0), 99);
        due("alike", y.stays(1), -2);
        due("less", y.stays(2), -2);
        due("12 is 11 then", y.stays(4), 0);
        due("13, 12, 11", y.stays(5), 1);
        // 11 stays 11: as many nights as 999 stays above it
        int nights = 0;
        for (int right = 999; right - right / 12 > 11; right -= right / 12) {
            nights++;
        }
        due("as long as it does", y.stays(3), nights);
        y.mend(0, 5, 12);
        due("none left", y.stays(0), 0);
        y.mend(0, 5, 0);
        due("nothing fades", y.stays(4), 99);
    }

    private static void withSpread() {
        says("WITH n PLAYINGS (0 .. 60), slow, all one day, then a NIGHT");
        PractisedWrong x = Told.lasting(1, 0, 0, 0, 0, 0, 0, 59, 0, 60);
        x.mend(0, 3, 99);
        Told.tell(x, "1");
        beyond("with(.., 0)", 0, 60, -1, n -> x.with(n, 0));
        due("0", x.with(0, 0), 1);
        due("0: which", x.with(0, 1), 1);
        due("0: playings", x.with(0, 2), 0);
        due("1", x.with(1, 1), 3);
        due("2", x.with(2, 1), 7);
        due("60", x.with(60, 1), 7);
        due("60: playings", x.with(60, 2), 2);

        says("each by as few as that takes (0 .. 60)");
        PractisedWrong y = Told.lasting(0, 59, 0, 60);
        y.mend(0, 3, 99);
        Told.tell(y, "1");
        due("59 are too few", y.with(59, 1), 0);
        due("60", y.with(60, 1), 1);
        due("60: playings", y.with(60, 2), 60);
        y.mend(0, 0, 1);
        due("59 are enough then", y.with(59, 2), 59);
        due("61 are more than there are: the other one never", y.with(60, 1), 1);

        says("of like ones those that take fewest PLAYINGS, then the least bits");
        PractisedWrong z = Told.lasting(0, 2, 0, 1, 0, 2, 0, 1, 0, 0);
        z.mend(0, 3, 99);
        Told.tell(z, "1");
        int[] bits = {0, 16, 16, 18, 18, 26, 26, 26, 27, 27, 27, 31};
        int[] playings = {0, 1, 1, 3, 3, 5, 5, 5, 8, 8, 8, 11};
        for (int n = 0; n < bits.length; n++) {
            due("with(" + n + ", 0)", z.with(n, 0), Integer.bitCount(bits[n]));
            due("with(" + n + ", 1)", z.with(n, 1), bits[n]);
            due("with(" + n + ", 2)", z.with(n, 2), playings[n]);
        }

        says("n PLAYINGS (0 .. 12) of a BAR, slow, over d days (1 .. 5), each with a NIGHT behind");
        PractisedWrong s = Told.lasting(0, 0);
        Told.tell(s, "1");
        for (int d = 0; d <= 9; d++) {
            boolean isDays = d >= 1 && d <= 5;
            due("0 over " + d, s.spread(0, d, -1), isDays ? 0 : VOID);
            due("12 over " + d, s.spread(0, 120 + d, -1), isDays ? 12 : VOID);
            due("12 over " + d + ", on the first", s.spread(0, 120 + d, 0), isDays ? (d == 1 ? 12 : 0) : VOID);
            due("13 over " + d, s.spread(0, 130 + d, -1), VOID);
        }
        for (int nd : new int[] {-1, -9, -10, -11, LEAST, LEAST + 1, GREATEST, GREATEST - 2, 1001, 10001}) {
            due("nd " + nd, s.spread(0, nd, -1), VOID);
        }

        says("SPREAD (nd: 10 n and d): that (day -1), how many on a day (0 on). VOID: BAD.");
        for (int d = 1; d <= 5; d++) {
            for (int day = 0; day < d; day++) {
                due("day " + day + " of " + d, s.spread(0, 120 + d, day), day == d - 1 ? 12 : 0);
            }
            for (int day : new int[] {-2, d, d + 1, LEAST, GREATEST}) {
                due("day " + day + " of " + d, s.spread(0, 120 + d, day), VOID);
            }
        }
        says("so that RIGHT less WRONG is greatest then (of like ones the most on the last day, then on the one ahead of that, and so on)");
        // two a day count: 12 over 5 days are too many, the last day takes what is over
        Told.tell(s, "n<2");
        int[] on = {2, 2, 2, 2, 4};
        for (int day = 0; day < 5; day++) {
            due("day " + day, s.spread(0, 125, day), on[day]);
        }
        due("that", s.spread(0, 125, -1), 10);
        for (int day = 0; day < 3; day++) {
            due("4 over 3 days, day " + day, s.spread(0, 43, day), new int[] {0, 2, 2}[day]);
        }
        // 5 over 5 days: the later days take two
        int[] few = {0, 0, 1, 2, 2};
        for (int day = 0; day < 5; day++) {
            due("day " + day, s.spread(0, 55, day), few[day]);
        }
    }

    /** Where the last day alone is not best, and where a playing does harm. */
    private static void spreadAlike() {
        says("so that RIGHT less WRONG is greatest then (of like ones the most on the last day, then on the one ahead of that, and so on)");
        // it comes wrong: 4, then 3 more. 1 0 1: 37, 31, 26, 30, 25. 1 1 0: 37, 31, 35, 30, 25. 0 2 0: 28, 35, 30, 25. 2 0 0: 40, 34, 29, 25.
        // 0 0 2: 28, 24, 31, 26. 0 1 1: 28, 32, 27, 31, 26. None at all would be 28, 24, 20
        PractisedWrong x = Told.piece(0, 33);
        x.mend(0, 6, 0);
        due("that", x.spread(0, 23, -1), -25);
        int[] on = {1, 0, 1};
        for (int day = 0; day < 3; day++) {
            due("day " + day, x.spread(0, 23, day), on[day]);
        }
        due("none: better, but not what was asked", x.spread(0, 3, -1), -20);
        // 1 0 2: 13 and 9, 10 and 8, 8 and 6, 19 and 6, 15 and 7. 0 2 1: 6 and 7, 17 and 7, 13 and 8, 19 and 8, 15 and 7
        PractisedWrong y = Told.piece(7, 9);
        y.mend(0, 5, 3);
        y.mend(0, 6, 2);
        due("that", y.spread(0, 33, -1), 8);
        int[] then = {1, 0, 2};
        for (int day = 0; day < 3; day++) {
            due("day " + day, y.spread(0, 33, day), then[day]);
        }
    }

    private static void stopFingerWhole() {
        says("the least count of its bytes, 0 .. all");
        PractisedWrong x = Told.lasting(0, 0, 0, 0, 0, 0);
        Told.tell(x, "1");
        Told.bytes(x, 0, 20, 21, 22);
        due("all", x.stop(0), 3);
        Told.bytes(x, 0, 20, 21, 22, 60, 0, 99, 1);
        due("the last that counts", x.stop(0), 3);
        Told.bytes(x, 0, 0, 0, 60);
        due("0", x.stop(0), 0);
        Told.bytes(x, 0, 60, 60, 20);
        due("nights are bytes, too", x.stop(0), 3);

        says("whether FINGER and TIMES (not slow) then are less than TIMES as it is (NOT counts as 1000 each): 1, 0; how many fewer");
        PractisedWrong y = Told.piece(0, 0, 1, 0, 0, 20);
        y.mend(0, 4, 99);
        Told.tell(y, "1");
        due("neither comes: 1000 less 12 less 1000", y.finger(0, 1), -12);
        due("neither comes", y.finger(0, 0), 0);
        y.mend(1, 2, 1);
        due("0 less 12 less 1", y.finger(1, 1), -13);
        due("as it is, 1000 less 12 less 1000", y.finger(2, 1), -12);
        y.mend(2, 2, 1);
        due("21 less 12 less 1", y.finger(2, 1), 8);
        due("cheaper", y.finger(2, 0), 1);
        y.mend(0, 7, 19);
        due("one fewer", y.finger(2, 1), 1);
        due("one fewer", y.finger(2, 0), 1);
        y.mend(0, 7, 20);
        due("alike", y.finger(2, 1), 0);
        due("alike", y.finger(2, 0), 0);
        y.mend(0, 7, 99);
        due("the dearest finger", y.finger(2, 1), 21 - 99 - 1);
        y.mend(2, 1, 150);
        due("as it is never, then by 1", y.finger(2, 1), 1000 - 99 - 1);

        says("NEW FINGER: a BAR with RIGHT, WRONG 0: whether FINGER and TIMES (not slow) then");
        // only the first two of a day add: 10, 11: 12, 11; anew 0, 0: 1, 0. What was tried first is no playing of the day
        PractisedWrong t = Told.piece(10, 11);
        t.mend(0, 2, 1);
        Told.tell(t, "n<2");
        due("2 less 12 less 1", t.finger(0, 1), -11);
        due("again", t.finger(0, 1), -11);

        says("how many times n (0 .. 60) it must be played through from the beginning");
        PractisedWrong z = Told.piece(0, 59);
        z.mend(0, 2, 1);
        z.mend(0, 4, 99);
        Told.tell(z, "1");
        due("60", z.whole(0), 60);
        z.mend(0, 1, 60);
        due("61 are too many", z.whole(0), -2);
        says("how many PLAYINGS it takes to bring each BAR there by itself (TIMES of all, not slow; NOT)");
        due("61 by bars", z.whole(1), 61);
        z.mend(0, 1, 98);
        due("99 by bars", z.whole(1), 99);
        z.mend(0, 1, 99);
        due("none by bars", z.whole(1), -2);
    }

    private static void wholeOfTwelve() {
        says("stopping at each SLIP (that BAR played, the rest not), that day, till a LESSON is without a SLIP");
        PractisedWrong x = new PractisedWrong();
        for (int b = 0; b < 12; b++) {
            x.bar(0, b);
            x.mend(b, 2, 1);
        }
        x.mend(0, 4, 50);
        Told.tell(x, "1");
        due("each plays right through: 12 for the last", x.whole(0), 12);
        due("by bars: 1 and 2 .. and 12", x.whole(1), 78);
        // the last slips till it is not marked any more: never
        x.mend(11, 2, 0);
        due("the last slips for ever", x.whole(0), -2);
        due("the last slips for ever", x.whole(1), -2);
        // the first slips by 1 each: the rest are never played
        x.mend(11, 2, 1);
        x.mend(0, 2, 0);
        due("the first slips for ever", x.whole(0), -2);
        Told.bytes(x, 0);
        due("it stays in thought", x.lesson(0, 0), 0);
        // a slip that helps: what comes wrong adds nothing, so the slip stays
        Told.tell(x, "q");
        due("the first slips, nothing is added", x.whole(0), -2);
    }

    private static void hearingAndDrawn() {
        says("HEARING (ab: 100 times the one and the other, alike, too)");
        PractisedWrong x = twelve();
        for (int ab : new int[] {0, 11, 1100, 1111, 1001, 5}) {
            due("hearing(" + ab + ", 0, 0)", x.hearing(ab, 0, 0), ab / 100 - 10);
            due("hearing(" + ab + ", 0, 1)", x.hearing(ab, 0, 1), ab % 100 - 10);
        }
        for (int ab : new int[] {-1, -100, -101, 12, 99, 1112, 1199, 1200, 1211, LEAST, GREATEST, -GREATEST}) {
            due("hearing(" + ab + ", 0, 0)", x.hearing(ab, 0, 0), VOID);
        }
        says("each of n days (0 .. 30) both play once (not slow)");
        beyond("hearing(1, .., 0)", 0, 30, VOID, n -> x.hearing(1, n, 0));
        PractisedWrong y = Told.lasting(0, 0);
        Told.tell(y, "1");
        due("0 days", y.hearing(0, 0, 0), 0);
        due("1 day", y.hearing(0, 1, 0), -1);
        due("30 days", y.hearing(0, 30, 0), -30);
        says("the first day on which both come RIGHT (0 on; NOT)");
        due("never", y.hearing(0, 30, 2), -2);
        PractisedWrong z = Told.lasting(1, 30, 99, 0);
        // a hears 1 right each day, plays wrong by 0: 1, 2 .. 30 on day 29, 31 on day 30
        Told.tell(z, "q*2");
        due("30 days are too few", z.hearing(1, 30, 2), -2);
        z.mend(0, 1, 29);
        due("the last of 30 days", z.hearing(1, 30, 2), 29);
        due("29 days are too few", z.hearing(1, 29, 2), -2);
        z.mend(0, 1, 0);
        due("the first day", z.hearing(1, 30, 2), 0);

        says("DRAWN: n LESSONS (1 .. 30) by a SEED");
        PractisedWrong w = Told.piece(1, 0);
        beyond("drawn(0, .., 0)", 1, 30, -1, n -> w.drawn(0, n, 0));
        due("1", w.drawn(0, 1, 0), 1);
        due("30", w.drawn(0, 30, 1), 30);
    }

    private static void heard() {
        says("the least and the greatest WRONG (0 .. 999) of a BAR now by which all is so; NOT");
        PractisedWrong x = Told.piece(0, 5, 980, 5);
        Told.bytes(x, 0, 0, 0);
        due("from 0", x.wrongFor(0, 0, 0), 0);
        due("to 999", x.wrongFor(0, 0, 1), 999);
        Told.bytes(x, 0, 20, 1);
        due("20 are more than 0 .. 19", x.wrongFor(0, 0, 0), 0);
        due("20 are more than 0 .. 19", x.wrongFor(0, 0, 1), 19);
        Told.bytes(x, 0, 21, 0);
        due("1000 are more than 999", x.wrongFor(0, 1, 0), -2);
        due("1000 are more than 999", x.wrongFor(0, 1, 1), -2);
        x.mend(1, 0, 979);
        due("999 are not", x.wrongFor(0, 1, 0), 999);
        due("999 are not", x.wrongFor(0, 1, 1), 999);

        says("FADES FOR: the least FADES by which all is so; NOT.");
        PractisedWrong y = Told.piece(12, 11);
        y.mend(0, 6, 0);
        Told.bytes(y, 0, 60, 9, 0, 0);
        // 12 and 11 less by f twelfths: 12 - f and 11 - 11 f / 12, alike from 1 on
        due("1", y.fadesFor(0), 1);
        Told.bytes(y, 0, 60, 9, 0, 1);
        due("0", y.fadesFor(0), 0);
        y.mend(0, 0, 0);
        y.mend(0, 1, 13);
        // 20 slowly are more than 13 even at 0; only by 12 is nothing left of 13 while right stays 0
        Told.bytes(y, 0, 60, 9, 0, 1);
        due("never", y.fadesFor(0), -2);
        y.mend(0, 3, 1);
        Told.bytes(y, 0, 60, 9, 20, 1);
        due("12: 1 is more than 0", y.fadesFor(0), 12);
    }

    private static void acts() {
        says("A PLAYING of a KIND (0 .. 7) is kept");
        PractisedWrong x = new PractisedWrong();
        beyond("body", 0, 7, -1, k -> x.body(k));
        due("none came", x.count(3), 0);
        due("the least", x.body(0), 0);
        due("the greatest", x.body(7), 1);
        says("An ACT (0 .. 3) of a PLAYING with x. 0, and no TRACE then: no such PLAYING, ACT.");
        for (int act = 0; act <= 3; act++) {
            x.act(1, act, 5);
            due("an act", x.count(4) > 0 ? 1 : 0, 1);
        }
        beyond("act(1, .., 5)", 0, 3, 0, a -> x.act(1, a, 5));
        due("no trace then", x.count(4), 0);
        due("none at 0", x.trace(0), -1);
        x.act(1, 3, 5);
        beyond("act(.., 3, 5)", 0, 1, 0, b -> x.act(b, 3, 5));
        due("no trace then", x.count(4), 0);
        due("none at 0", x.trace(0), -1);
        says("THE TRACE's i-th body. BAD.");
        x.act(1, 0, 5);
        due("plays: 20, 1", x.count(4), 2);
        due("trace(0)", x.trace(0), 20);
        due("trace(1)", x.trace(1), 1);
        beyond("trace", 0, 1, -1, i -> x.trace(i));
        says("A SHELF holds nothing (body -1), or a PLAYING: 1. BAD.");
        beyond("keep(0, ..)", -1, 1, -1, b -> x.keep(0, b));
        due("nothing was kept", x.taken(0, 0), -11);
        due("the first", x.keep(0, 0), 1);
        due("taken", x.taken(0, 0), 0);
        due("the last", x.keep(0, 1), 1);
        due("taken", x.taken(0, 0), 7);
        due("nothing", x.keep(0, -1), 1);
        due("taken", x.taken(0, 0), -11);
        says("What a SHELF holds, taken for a PLAYING of KIND k (0 .. 7), or under it: its KIND");
        x.keep(0, 1);
        beyond("taken(0, ..)", 0, 7, -1, k -> x.taken(0, k));
        due("the least", x.taken(0, 0), 7);
        due("the greatest", x.taken(0, 7), 7);
    }

    private static void rows() {
        says("0 bytes, 1 shorts, 2 ints, 3 longs, 4 booleans");
        PractisedWrong x = new PractisedWrong();
        beyond("row(0, .., 1)", 0, 4, -1, s -> x.row(0, s, 1));
        due("nothing came of it", x.put(0, 0, 1), -11);
        within("row(0, .., 1)", 0, 4, -1, s -> x.row(0, s, 1));
        says("of 0 .. 60 elements, 0 at first (false)");
        PractisedWrong y = new PractisedWrong();
        for (int n : new int[] {61, 62, GREATEST - 1, GREATEST}) {
            due("row of " + n, y.row(0, 0, n), -1);
        }
        says("BAD (sort, n above 60); -14.");
        for (int n : new int[] {-1, -2, LEAST + 1, LEAST}) {
            due("row of " + n, y.row(0, 0, n), -14);
        }
        due("nothing came of it", y.put(0, 0, 1), -11);
        for (int n = 0; n <= 60; n += 20) {
            due("row of " + n, y.row(0, 3, n), 1);
            due("behind the last", y.put(0, n, 1), -13);
            due("the last", n == 0 ? 1 : y.put(0, n - 1, 1), 1);
        }
    }

    private static void places() {
        says("Element i of a ROW becomes v: 1. BAD, -11, -12, -13.");
        PractisedWrong x = new PractisedWrong();
        Told.row(x, 0, Told.INTS, 5, 6, 7);
        Told.row(x, 1, Told.INTS, 1, 2);
        beyond("put(0, .., 9)", 0, 2, -13, i -> x.put(0, i, 9));
        int[] is = {5, 6, 7};
        for (int i = 0; i < 3; i++) {
            due("element " + i, x.element(0, i), is[i]);
            due("put " + i, x.put(0, i, is[i] + 10), 1);
            due("element " + i, x.element(0, i), is[i] + 10);
        }
        says("Element i of a ROW; Long.MIN_VALUE: BAD, -11 to -13.");
        beyond("element(0, ..)", 0, 2, Long.MIN_VALUE, i -> x.element(0, i));
        due("the last", x.element(0, 2), 17);
        says("n elements of a ROW from i on come to another one (or the same) from j on, as they all were before: n");
        beyond("shift from ..", 0, 2, -13, i -> x.shift(0, i, 1, 0, 1));
        beyond("shift to ..", 0, 1, -13, j -> x.shift(0, 0, 1, j, 1));
        beyond("shift of ..", 0, 2, -13, n -> x.shift(0, 0, 1, 0, n));
        beyond("shift none from ..", 0, 3, -13, i -> x.shift(0, i, 1, 0, 0));
        beyond("shift none to ..", 0, 2, -13, j -> x.shift(0, 0, 1, j, 0));
        due("one too many from 2", x.shift(0, 2, 1, 0, 2), -13);
        due("one too many to 1", x.shift(0, 0, 1, 1, 2), -13);
        due("as it was", x.element(1, 0) * 10 + x.element(1, 1), 12);
        due("the last to the last", x.shift(0, 2, 1, 1, 1), 1);
        due("there", x.element(1, 1), 17);
        due("all that go", x.shift(0, 1, 1, 0, 2), 2);
        due("there", x.element(1, 0) * 100 + x.element(1, 1), 1617);
        due("none, behind the ends", x.shift(0, 3, 1, 2, 0), 0);
    }

    private static void shelves() {
        says("SHELVES 0 .. 5 each hold nothing (at first), a PLAYING (a BODY), or a ROW");
        PractisedWrong x = Told.piece(40, 50);
        x.body(0);
        String[] names = {"bars", "plan", "came", "lesson", "stop", "judge", "wrongFor", "fadesFor", "which", "keep -1", "keep", "row", "row below 0", "put",
            "element", "shift", "shift to", "taken"};
        long[] refusals = {-1, -1, -1, -1, -1, -1, -1, -1, -1, -1, -1, -1, -1, -1, Long.MIN_VALUE, -1, -1, -1};
        Asked[] calls = {s -> x.bars(s, 0, 1), s -> x.plan(s, 0, 0), s -> x.came(s, 0), s -> x.lesson(s, 0), s -> x.stop(s), s -> x.judge(s),
            s -> x.wrongFor(s, 0, 0), s -> x.fadesFor(s), s -> x.which(s), s -> x.keep(s, -1), s -> x.keep(s, 0), s -> x.row(s, 0, 1), s -> x.row(s, 0, -1),
            s -> x.put(s, 0, 1), s -> x.element(s, 0), s -> x.shift(s, 0, 0, 0, 0), s -> x.shift(0, 0, s, 0, 0), s -> x.taken(s, 0)};
        for (int i = 0; i < calls.length; i++) {
            beyond(names[i], 0, 5, refusals[i], calls[i]);
        }
        for (int s = 0; s <= 5; s++) {
            due("nothing at first", x.put(s, 0, 1), -11);
        }
        for (int s = 0; s <= 5; s++) {
            due("row", x.row(s, 2, s + 1), 1);
            due("put", x.put(s, s, 70 + s), 1);
        }
        for (int s = 0; s <= 5; s++) {
            due("its own", x.element(s, s), 70 + s);
            due("its own size", x.put(s, s + 1, 1), -13);
        }
        for (int s = 0; s <= 5; s++) {
            due("a playing", x.keep(s, 0), 1);
            due("taken", x.taken(s, 0), 0);
        }
    }
}
