/** Wrap-around: ints that wrap, division by 0, lowest bits, and numbers near the greatest and the least int. */
public final class WrapAroundTest {
    private static final int LEAST = Told.LEAST, GREATEST = Told.GREATEST, VOID = Told.VOID;

    private static void says(String words) {
        Told.says(words);
    }

    private static void due(String call, long got, long want) {
        Told.due(call, got, want);
    }

    public static void main(String[] args) {
        lawWraps(); division(); truth(); joins(); names(); acts(); draws(); lowestBits(); farPlaces(); farNumbers();
        Told.end("wrap-around");
    }

    private static int worth(PractisedWrong x, String text) {
        int told = Told.tell(x, text);
        return told == 1 ? x.playing(0, 0, 1) : told;
    }

    private static void lawWraps() {
        PractisedWrong x = Told.piece(5, 0);
        // 9999 * 9999 is 99980001; by 22 it is 2199560022, behind the greatest int: -2095407274
        says("Ints that wrap");
        due("* wraps below 0", worth(x, "9999*9999*22<0"), 1);
        due("* wraps to that: 2095407274 more are 0", worth(x, "9999*9999*22+9999*9999*20+9999*9581+6835=0"), 1);
        due("* wraps to 0", worth(x, "4096*4096*256+7"), 7);
        due("* wraps to the least", worth(x, "4096*4096*128<0"), 1);
        due("one less than the least is the greatest", worth(x, "4096*4096*128-1>0"), 1);
        due("one more than the greatest is the least", worth(x, "(4096*4096*128-1)+1<0"), 1);
        due("- of the least is the least", worth(x, "-(4096*4096*128)<0"), 1);
        due("- of the least is the least", worth(x, "-(4096*4096*128)=4096*4096*128"), 1);
        due("the least twice is 0", worth(x, "4096*4096*128+4096*4096*128+3"), 3);
        due("the greatest twice is -2", worth(x, "(4096*4096*128-1)*2+5"), 3);
        due("0 less the least", worth(x, "0-4096*4096*128<0"), 1);
        due("compared, not subtracted", worth(x, "4096*4096*128<1"), 1);
        due("compared, not subtracted", worth(x, "1>4096*4096*128"), 1);
        due("compared, not subtracted", worth(x, "(4096*4096*128-1)>-2"), 1);
        says("how much a PLAYING adds (held within 0 .. 99)");
        due("held behind wrapping", worth(x, "4096*4096*128"), 0);
        due("held behind wrapping", worth(x, "4096*4096*128-1"), 99);
    }

    private static void division() {
        PractisedWrong x = Told.piece(5, 0);
        says("/ and % toward 0, by 0 they give 0");
        due("7 / 0", worth(x, "7/0+1"), 1);
        due("0 / 0", worth(x, "0/0+1"), 1);
        due("7 % 0", worth(x, "7%0+1"), 1);
        due("0 % 0", worth(x, "0%0+1"), 1);
        due("-7 / 0", worth(x, "-7/0+1"), 1);
        due("-7 % 0", worth(x, "-7%0+1"), 1);
        due("by a name that is 0", worth(x, "7/w+7%w+2"), 2);
        due("by a sum that is 0", worth(x, "7/(3-3)+2"), 2);
        due("0 and on", worth(x, "7/0*3+4"), 4);
        due("7 / 2", worth(x, "7/2"), 3);
        due("-7 / 2", worth(x, "-7/2+9"), 6);
        due("7 / -2", worth(x, "7/-2+9"), 6);
        due("-7 / -2", worth(x, "-7/-2+9"), 12);
        due("7 % 2", worth(x, "7%2"), 1);
        due("-7 % 2", worth(x, "-7%2+9"), 8);
        due("7 % -2", worth(x, "7%-2+9"), 10);
        due("-7 % -2", worth(x, "-7%-2+9"), 8);
        due("the least by -1 wraps", worth(x, "4096*4096*128/-1=4096*4096*128"), 1);
        due("the least by -1 leaves 0", worth(x, "4096*4096*128%-1+2"), 2);
        due("the least by itself", worth(x, "4096*4096*128/(4096*4096*128)"), 1);
        due("the least by 2", worth(x, "4096*4096*128/2=-(4096*4096*64)"), 1);
        due("in a first E", worth(x, "7/0?5;6"), 6);
    }

    private static void truth() {
        PractisedWrong x = Told.piece(5, 0);
        says("| & < = > ! give 1, 0; all is worked out");
        String[] ones = {"3|0", "0|3", "3|4", "3&4", "-1&-1", "1<2", "2=2", "2>1", "!0", "!!7", "-1|0", "0-1<0", "!0=1", "(1<2)<3", "4096*4096*128|0"};
        String[] noughts = {"0|0", "3&0", "0&3", "0&0", "2<1", "2<2", "1=2", "1>2", "2>2", "!1", "!7", "!-1", "!!0", "(3>2)>1", "4096*4096*256|0"};
        for (String text : ones) {
            due(text, worth(x, text) * 10 + worth(x, "(" + text + ")*7"), 17);
        }
        for (String text : noughts) {
            due(text, worth(x, text) * 10 + worth(x, "(" + text + ")*7+3"), 3);
        }
        due("by 0 behind 1|", worth(x, "1|7/0"), 1);
        due("by 0 behind 0&", worth(x, "0&7%0"), 0);
    }

    private static void joins() {
        PractisedWrong x = Told.piece(5, 0);
        says("E = A { | A }. A = B { & B }. B = S, or S < S, S = S, S > S. S = P { + P, - P }. P = O { * O, / O, % O }.");
        String[] texts = {"9-3-2", "9-3+2", "64/4/2", "64/4*2", "17%10%4", "17%10*2", "2*9%4", "2+3*4", "2*3+4", "9-8/4", "1+1<3", "3<1+1", "1<2&2<3", "1<2&3<2",
            "0&0|1", "1|0&0", "0&1|0", "-2+5", "-2*-4", "!0+4", "!3+4", "-!0+4", "!-0+4", "5=5=0", "1&2=2", "(1&2)=2", "9-(3-2)", "64/(4/2)", "(1|0)&0", "2*(3+4)"};
        int[] want = {4, 8, 8, 32, 3, 14, 2, 14, 10, 7, 1, 0, 1, 0, 1, 1, 0, 3, 8, 5, 4, 3, 5, -103, 1, 0, 8, 32, 0, 14};
        for (int i = 0; i < texts.length; i++) {
            due(texts[i], worth(x, texts[i]), want[i]);
        }
        String[] twice = {"1<2<3", "1=2<3", "1>2=3", "1<2>3"};
        for (String text : twice) {
            due(text, worth(x, text), -103);
        }
        says("The first LINE without a first E, or whose first E is not 0, counts; none: 0.");
        String[] both = {"1?0|3", "1?3&2", "1?2<3", "1?2=3", "1?3>2", "1?9-3-2", "1?64/4/2", "0|0?5;6", "0|2?5;6", "1&0?5;6", "2<1?5;6", "2-2?5;6", "0*7?5;6", "(0)?5;(1)?(6)"};
        int[] worth = {1, 1, 1, 0, 1, 4, 8, 6, 5, 6, 6, 6, 6, 6};
        for (int i = 0; i < both.length; i++) {
            due(both[i], worth(x, both[i]), worth[i]);
        }
        String[] lines = {"5;6", "0?5;6", "1?5;6", "-1?5;6", "0?5;0?6", "0?5;0?6;0", "0?5;3?6;7", "0;9", "1-1?5;2-1?6", "1?0;9", "4096*4096*256?5;6"};
        int[] then = {5, 6, 5, 5, 0, 0, 6, 0, 6, 0, 6};
        for (int i = 0; i < lines.length; i++) {
            due(lines[i], worth(x, lines[i]), then[i]);
        }
        says("No blanks.");
        due("ahead", worth(x, " 1"), -100);
        due("between", worth(x, "1 +1"), -101);
        due("behind", worth(x, "1 "), -101);
        due("behind ;", worth(x, "1; 2"), -102);
    }

    private static void names() {
        says("NAMES: r RIGHT, w WRONG, q 1, if it came RIGHT, s 1, if slow, m MARKED, n how many times the BAR was played that day ahead");
        PractisedWrong x = Told.piece(30, 40);
        due("r", worth(x, "r"), 30);
        due("w", worth(x, "w"), 40);
        due("m", worth(x, "m"), 0);
        x.mend(0, 2, 1);
        due("m", worth(x, "m"), 1);
        due("n", worth(x, "n"), 0);
        Told.tell(x, "0");
        x.play(0, 0);
        x.play(0, 1);
        x.play(0, 0);
        due("n behind three", worth(x, "n"), 3);
        due("q: 40 are not more", worth(x, "q"), 0);
        due("s: not slow", worth(x, "s"), 0);
        Told.tell(x, "q");
        due("q slow", x.playing(0, 1, 1), 1);
        Told.tell(x, "s");
        due("s slow", x.playing(0, 1, 1), 1);
        // 50 are not more than 60, 80 are more than 60
        PractisedWrong y = Told.piece(30, 60, 80, 60, 50, 60);
        Told.tell(y, "q*10+s+1");
        due("wrong, slow", y.playing(0, 1, 1), 2);
        due("right, not slow", y.playing(1, 0, 1), 11);
        due("right, slow", y.playing(2, 1, 1), 12);
        due("wrong, not slow", y.playing(2, 0, 1), 1);
        Told.tell(y, "s");
        due("s alone", y.playing(1, 0, 1) * 10 + y.playing(0, 1, 1), 1);
        Told.tell(y, "q");
        due("q alone", y.playing(1, 0, 1) * 10 + y.playing(0, 1, 1), 10);
        Told.tell(x, "n");
        x.night();
        due("n behind a night", x.playing(0, 0, 1), 0);
        for (String none : new String[] {"R", "W", "Q", "S", "M", "N", "a", "z", "p", "o", "l", "t", "v", "x"}) {
            due("no name: " + none, worth(x, none), -100);
        }
    }

    private static void acts() {
        says("ACTS with x (an int that wraps): 0 plays, 1 adds, 2 fades, 3 tells; n its number.");
        PractisedWrong x = new PractisedWrong();
        for (int kind = 0; kind < 8; kind++) {
            x.body(kind);
        }
        x.body(0);
        due("plays: x + n", x.act(8, 0, GREATEST), LEAST + 7);
        due("plays of 0", x.act(0, 0, LEAST), LEAST);
        due("adds: twice", x.act(0, 1, 1 << 30), LEAST);
        due("adds: twice the least", x.act(0, 1, LEAST), 0);
        due("adds: twice the greatest", x.act(0, 1, GREATEST), -2);
        due("fades: x ^ n", x.act(8, 2, LEAST), LEAST + 8);
        due("tells: adds less fades", x.act(8, 3, GREATEST), 14 - (1 ^ 8));
        // slow: x + 1 + 3
        due("slow plays", x.act(1, 0, GREATEST - 3), LEAST);
        due("slow adds", x.act(1, 1, GREATEST - 3), 0);
        due("marked: - of the least", x.act(2, 1, (1 << 30) - 2), LEAST);
        due("night: three times x ^ 3", x.act(3, 2, GREATEST), (GREATEST - 3) * 3);
        due("night adds: x + 1 wraps", x.act(3, 1, GREATEST), -6);
        due("finger fades", x.act(4, 2, LEAST), LEAST + 4 - 9);
        due("lesson tells", x.act(5, 3, GREATEST), (-(LEAST + 5) * 2 - 12) ^ 5);
        due("heard plays: twice", x.act(6, 0, GREATEST), (LEAST + 5) * 2);
        due("sharp plays", x.act(7, 0, GREATEST), LEAST + 9);
    }

    private static void draws() {
        says("z = z * 1103515245 + 12345 (an int; SEED at first) ahead of each BAR");
        for (int seed : new int[] {0, 1, 2, -1, 77, LEAST, LEAST + 1, GREATEST, GREATEST - 1}) {
            PractisedWrong x = Told.piece(5, 7, 0, 0, 9, 2, 0, 3, 1, 0);
            long z = seed & 0xFFFFFFFFL;
            int[] right = {5, 0, 9, 0, 1}, both = {12, 0, 11, 3, 1};
            int came = 0;
            for (int lesson = 0; lesson < 30; lesson++) {
                for (int b = 0; b < 5; b++) {
                    z = z * 1103515245L + 12345L & 0xFFFFFFFFL;
                    long upper = z / 256;
                    came += both[b] == 0 ? (upper % 2 < 1 ? 1 : 0) : upper % both[b] < right[b] ? 1 : 0;
                }
                due("seed " + seed + ", " + (lesson + 1) + " lessons", x.drawn(seed, lesson + 1, 1), came);
            }
        }
        says("LESSONS without a SLIP");
        for (int seed : new int[] {0, 3, -5, LEAST, GREATEST}) {
            PractisedWrong x = Told.piece(5, 4, 9, 2);
            int z = seed, clean = 0;
            for (int lesson = 0; lesson < 30; lesson++) {
                z = z * 1103515245 + 12345;
                boolean first = (z >>> 8) % 9 < 5;
                z = z * 1103515245 + 12345;
                clean += first && (z >>> 8) % 11 < 9 ? 1 : 0;
                due("seed " + seed + ", " + (lesson + 1) + " lessons", x.drawn(seed, lesson + 1, 0), clean);
            }
        }
    }

    private static void lowestBits() {
        says("what is put in keeps its lowest bits (a boolean: whether it is not 0; 1 or 0)");
        long[] values = {0, 1, -1, 127, 128, 255, 256, 257, -128, -129, 32767, 32768, 65535, 65536, 65537, -32768, -32769, 2147483647L, 2147483648L, 4294967295L,
            4294967296L, 4294967297L, -2147483648L, -2147483649L, 1L << 40, Long.MAX_VALUE, Long.MIN_VALUE, Long.MIN_VALUE + 1};
        for (long v : values) {
            PractisedWrong x = new PractisedWrong();
            long[] want = {(byte) v, (short) v, (int) v, v, v != 0 ? 1 : 0};
            for (int sort = 0; sort < 5; sort++) {
                x.row(sort, sort, 1);
                due("put " + v, x.put(sort, 0, v), 1);
                due("sort " + sort + " of " + v, x.element(sort, 0), want[sort]);
            }
        }
        says("0 .. 11 a BAR played, 20 .. 31 BAR 0 .. 11 slow, 60 a NIGHT");
        PractisedWrong x = Told.piece(1, 0);
        Told.bytes(x, 0, 256, 256 + 20, 512 + 60, -256 + 60);
        due("bytes by their lowest bits", x.lesson(0, 4), 4);
        Told.bytes(x, 0, 128, 128 + 20);
        due("below 0 they are none", x.lesson(0, 4), 0);
        says("BARS FROM A ROW of shorts, from a place on: by twos RIGHT, WRONG");
        Told.row(x, 0, Told.SHORTS, 65536 + 7, -65536 + 8, 32768, 0);
        due("shorts by their lowest bits", x.bars(0, 0, 2), 1);
        due("right", x.of(1, 0), 7);
        due("wrong", x.of(1, 1), 8);
        says("as they all were before");
        Told.row(x, 0, Told.LONGS, Long.MIN_VALUE, Long.MAX_VALUE, 1L << 40);
        due("longs onward", x.shift(0, 0, 0, 1, 2), 2);
        due("0", x.element(0, 0) == Long.MIN_VALUE ? 1 : 0, 1);
        due("1", x.element(0, 1) == Long.MIN_VALUE ? 1 : 0, 1);
        due("2", x.element(0, 2), Long.MAX_VALUE);
    }

    private static void farPlaces() {
        says("-13 a place that is not there");
        PractisedWrong x = Told.piece(40, 50);
        Told.row(x, 0, Told.INTS, 1, 2, 3);
        Told.row(x, 1, Told.INTS, 4, 5, 6);
        int[] far = {LEAST, LEAST + 1, LEAST + 2, LEAST + 3, -3, 4, 60, GREATEST - 3, GREATEST - 2, GREATEST - 1, GREATEST};
        for (int i : far) {
            due("put at " + i, x.put(0, i, 9), -13);
            due("element at " + i, x.element(0, i), Long.MIN_VALUE);
            for (int n : new int[] {0, 1, 3, GREATEST, GREATEST - 2, LEAST, LEAST + 3}) {
                due("shift of " + n + " from " + i, x.shift(0, i, 1, 0, n), -13);
                due("shift of " + n + " to " + i, x.shift(0, 0, 1, i, n), -13);
            }
        }
        for (int n : far) {
            // a place and a number that together wrap to one that is there
            due("shift of " + n, x.shift(0, 1, 1, 1, n), -13);
            due("shift of " + n, x.shift(0, 0, 1, 0, n), -13);
        }
        for (int i = 0; i < 3; i++) {
            due("as it was", x.element(0, i) * 10 + x.element(1, i), 10 * (i + 1) + i + 4);
        }
        says("-14 a size below 0");
        for (int n : new int[] {-1, LEAST, LEAST + 1, LEAST + 60}) {
            due("row of " + n, x.row(2, 0, n), -14);
        }
        says("BAD (sort, n above 60)");
        for (int n : new int[] {61, 256, 65536, GREATEST, GREATEST - 60}) {
            due("row of " + n, x.row(2, 0, n), -1);
        }
        says("there are not as many");
        Told.bytes(x, 3, 0, 0);
        for (int k : new int[] {2, 60, 256, 65536, GREATEST - 1, GREATEST}) {
            due("came " + k, x.came(3, k), -2);
        }
        for (int k : new int[] {-1, -256, LEAST, LEAST + 1}) {
            due("came " + k, x.came(3, k), -1);
        }
        says("it ends where the row is missing, ends");
        Told.row(x, 4, Told.SHORTS, 1, 2, 3, 4);
        for (int i : new int[] {LEAST, LEAST + 1, LEAST + 2, GREATEST - 2, GREATEST - 1, GREATEST}) {
            due("bars from " + i, x.bars(4, i, 12), 0);
        }
        due("none came", x.count(0), 1);
    }

    private static void farNumbers() {
        says("SPREAD (nd: 10 n and d)");
        PractisedWrong x = Told.piece(40, 50, 60, 50);
        // ints that would be 11 and the like if they wrapped, or as bytes
        for (int nd : new int[] {LEAST, LEAST + 11, GREATEST, GREATEST - 6, 256 + 11, 65536 + 11, -11, -89}) {
            due("spread of " + nd, x.spread(0, nd, -1), VOID);
        }
        says("HEARING (ab: 100 times the one and the other, alike, too)");
        for (int ab : new int[] {LEAST, LEAST + 48, GREATEST, GREATEST - 47, -1, -100, -101, 65536, 10000}) {
            due("hearing of " + ab, x.hearing(ab, 1, 0), VOID);
        }
        says("A byte (0 .. 255) comes to THE TAPE");
        for (int letter : new int[] {256 + '1', -256 + '1', 65536 + '1', LEAST + '1', LEAST, GREATEST}) {
            due("feed " + letter, x.feed(letter), -1);
        }
        due("none came", x.count(1), 0);
        says("0 .. 999 each");
        for (int v : new int[] {65536 + 5, -65536 + 5, LEAST + 5, GREATEST}) {
            due("bar of " + v, x.bar(v, 5), -1);
            due("bar of " + v, x.bar(5, v), -1);
            due("mend to " + v, x.mend(0, 0, v), -1);
        }
        due("none came", x.count(0), 2);
    }
}
