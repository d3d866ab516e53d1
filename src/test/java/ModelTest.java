import java.util.ArrayList;
import java.util.Arrays;
import java.util.List;
import java.util.Random;
import java.util.TreeSet;

/**
 * Long runs of drawn calls, each answer held against a second, slow telling of the document that
 * shares no code with the class: texts by all their endings, acts by Java's own inheritance,
 * choices by trying them all.
 */
public final class ModelTest {
    private static int wrong = 0;

    public static void main(String[] args) {
        for (int seed = 0; seed < 400 && wrong < 20; seed++) {
            new Run(seed).go();
        }
        System.out.println(wrong == 0 ? "model: all answers are alike" : "model: " + wrong + " answers differ");
        if (wrong != 0) {
            System.exit(1);
        }
    }

    /** One object and its model under the same calls. */
    private static final class Run {
        final int seed;
        final Random random;
        final PractisedWrong x = new PractisedWrong();
        final Model m = new Model();
        final List<String> log = new ArrayList<>();

        Run(int seed) {
            this.seed = seed;
            this.random = new Random(seed);
        }

        void due(String call, long got, long want) {
            log.add(call + " -> " + got);
            if (got != want) {
                wrong++;
                System.out.println("run " + seed + ", call " + log.size() + ": " + call + " answered " + got + ", due is " + want);
            }
        }

        int below(int n) {
            return random.nextInt(n);
        }

        /** Mostly a number that is right, at times one beyond. */
        int near(int least, int greatest) {
            int span = Math.max(1, greatest - least + 1);
            return below(25) == 0 ? least - 2 + below(span + 4) : least + below(span);
        }

        int someBar() {
            return near(0, Math.max(0, m.bars.size() - 1));
        }

        int amount() {
            int r = below(10);
            return r < 6 ? near(0, 100) : r < 9 ? near(0, 30) : near(0, 999);
        }

        void go() {
            int first = below(7);
            for (int i = 0; i < first; i++) {
                newBar();
            }
            for (int i = first; i < 500 && wrong < 20; i++) {
                i += call();
            }
        }

        void newBar() {
            int r = amount(), w = amount();
            due("bar(" + r + ", " + w + ")", x.bar(r, w), m.bar(r, w));
        }

        /** Makes one call or several: how many more than one. */
        int call() {
            int pick = below(100);
            if (pick < 2) { newBar(); return 0; }
            if (pick < 8) return fillBytes();
            if (pick < 10) return feedText();
            if (pick < 12) return fillShorts();
            if (pick < 30) { deed(); return 0; }
            if (pick < 42) { change(); return 0; }
            if (pick < 60) { ask(); return 0; }
            if (pick < 76) { askShelf(); return 0; }
            if (pick < 88) { shelfCall(); return 0; }
            bodyCall();
            return 0;
        }

        int fillBytes() {
            int shelf = near(0, 2), n = near(0, 16);
            due("row(" + shelf + ", 0, " + n + ")", x.row(shelf, 0, n), m.row(shelf, 0, n));
            int size = Math.max(1, m.bars.size());
            int style = below(3);
            for (int i = 0; i < n; i++) {
                int v;
                if (style == 1 && i % 2 == 1 || style == 2) v = below(8) == 0 ? 7 : below(2);
                else if (below(40) == 0) v = below(256) - 128;
                else if (below(5) == 0) v = 60;
                else v = below(size) + (below(2) == 0 ? 20 : 0);
                due("put(" + shelf + ", " + i + ", " + v + ")", x.put(shelf, i, v), m.put(shelf, i, v));
            }
            return Math.max(0, n);
        }

        int fillShorts() {
            int shelf = near(3, 4), n = near(0, 9);
            due("row(" + shelf + ", 1, " + n + ")", x.row(shelf, 1, n), m.row(shelf, 1, n));
            for (int i = 0; i < n; i++) {
                int v = amount();
                due("put(" + shelf + ", " + i + ", " + v + ")", x.put(shelf, i, v), m.put(shelf, i, v));
            }
            int i = near(0, 4), k = near(1, 6);
            due("bars(" + shelf + ", " + i + ", " + k + ")", x.bars(shelf, i, k), m.bars(shelf, i, k));
            return Math.max(0, n) + 1;
        }

        int feedText() {
            String text = below(2) == 0 ? useful() : lines();
            if (below(3) == 0) text = spoilt(text);
            for (int i = 0; i < text.length(); i++) {
                due("feed(" + (int) text.charAt(i) + ")", x.feed(text.charAt(i)), m.feed(text.charAt(i)));
            }
            due("law() of " + text, x.law(), m.law());
            due("count(1)", x.count(1), m.count(1));
            return text.length() + 1;
        }

        String useful() {
            String[] texts = {"9+q*3-s*4-n+(r<w)*2", "q?7-n;w>r?12;3", "r/9+1", "q&s?5;m|!q?9-n;2", "n>3?0;4+q", "40-n*9", "(r+w)%7+1", "1"};
            return texts[below(texts.length)];
        }

        String lines() {
            StringBuilder b = new StringBuilder(line());
            while (below(3) == 0) b.append(';').append(line());
            return b.toString();
        }

        String line() {
            return below(3) == 0 ? e(3) + "?" + e(3) : e(4);
        }

        String e(int deep) {
            String[] joins = {"|", "&", "<", "=", ">", "+", "-", "*", "/", "%"};
            StringBuilder b = new StringBuilder(o(deep));
            while (below(2) == 0) b.append(joins[below(10)]).append(o(deep));
            return b.toString();
        }

        String o(int deep) {
            int pick = below(deep > 0 ? 9 : 6);
            if (pick < 3) return String.valueOf(below(below(2) == 0 ? 10 : 10000));
            if (pick < 6) return String.valueOf("rwqsmn".charAt(below(6)));
            if (pick == 6) return "!" + o(deep - 1);
            if (pick == 7) return "-" + o(deep - 1);
            return "(" + e(deep - 1) + ")";
        }

        String spoilt(String text) {
            String signs = "rwqsmn0123456789()!-+*/%<=>|&?; xR";
            int at = below(text.length() + 1);
            if (below(4) == 0) return text.substring(0, at);
            StringBuilder b = new StringBuilder(text.substring(0, at));
            int more = 1 + below(7);
            char c = signs.charAt(below(signs.length()));
            for (int i = 0; i < more; i++) b.append(below(2) == 0 ? c : signs.charAt(below(signs.length())));
            return b.append(text.substring(at)).toString();
        }

        void deed() {
            int b = someBar(), s = near(0, 1);
            switch (below(9)) {
                case 0: due("night()", x.night(), m.night()); break;
                case 1: due("thursday()", x.thursday(), m.thursday()); break;
                case 2: { int w = near(0, 4); due("led(" + w + ")", x.led(w), m.led(w)); break; }
                case 3: if (below(3) == 0) { due("image()", x.image(), m.image()); break; }
                        if (below(3) == 0) { due("back()", x.back(), m.back()); break; }
                default: due("play(" + b + ", " + s + ")", x.play(b, s), m.play(b, s));
            }
        }

        void change() {
            switch (below(8)) {
                case 0: due("undo()", x.undo(), m.undo()); break;
                case 1: due("redo()", x.redo(), m.redo()); break;
                case 2: { int w = near(0, 4); due("count(" + w + ")", x.count(w), m.count(w)); break; }
                case 3: case 4: {
                    int w = below(3) == 0 ? 10 + below(2) : near(0, 7), n = w > 2 && w < 8 ? near(0, 0) : someBar();
                    due("of(" + n + ", " + w + ")", x.of(n, w), m.of(n, w));
                    break;
                }
                default: {
                    int w = near(0, 7), n = w > 2 ? near(0, 0) : someBar();
                    int v = w < 2 ? amount() : w == 2 ? near(0, 1) : w == 5 ? near(0, below(3) == 0 ? 12 : 4) : w == 6 ? near(0, 9) : near(0, 99);
                    due("mend(" + n + ", " + w + ", " + v + ")", x.mend(n, w, v), m.mend(n, w, v));
                }
            }
        }

        void ask() {
            int b = someBar();
            switch (below(13)) {
                case 0: { int s = near(0, 1), w = near(0, 1); due("playing(" + b + ", " + s + ", " + w + ")", x.playing(b, s, w), m.playing(b, s, w)); break; }
                case 1: { int s = near(0, 1); due("times(" + b + ", " + s + ")", x.times(b, s), m.times(b, s)); break; }
                case 2: due("stays(" + b + ")", x.stays(b), m.stays(b)); break;
                case 3: { int n = near(0, 60), w = near(0, 2); due("with(" + n + ", " + w + ")", x.with(n, w), m.with(n, w)); break; }
                case 4: { int n = near(0, below(6) == 0 ? 12 : 6), d = near(1, 5), day = near(-1, d - 1); due("spread(" + b + ", " + (10 * n + d) + ", " + day + ")", x.spread(b, 10 * n + d, day), m.spread(b, 10 * n + d, day)); break; }
                case 5: { int w = near(0, 1); due("finger(" + b + ", " + w + ")", x.finger(b, w), m.finger(b, w)); break; }
                case 6: case 7: { int w = near(0, 1); due("whole(" + w + ")", x.whole(w), m.whole(w)); break; }
                case 8: { int w = near(0, 1); due("odds(" + b + ", " + w + ")", x.odds(b, w), m.odds(b, w)); break; }
                case 9: due("all()", x.all(), m.all()); break;
                case 10: { int n = near(1, 30), w = near(0, 1), z = random.nextInt(); due("drawn(" + z + ", " + n + ", " + w + ")", x.drawn(z, n, w), m.drawn(z, n, w)); break; }
                default: { int ab = 100 * b + someBar(), n = near(0, 30), w = near(0, 2); due("hearing(" + ab + ", " + n + ", " + w + ")", x.hearing(ab, n, w), m.hearing(ab, n, w)); }
            }
        }

        void askShelf() {
            int s = below(12) == 0 ? near(0, 5) : below(3), b = someBar();
            switch (below(8)) {
                case 0: { int w = near(0, 1); due("plan(" + s + ", " + b + ", " + w + ")", x.plan(s, b, w), m.plan(s, b, w)); break; }
                case 1: { int k = near(0, 15); due("came(" + s + ", " + k + ")", x.came(s, k), m.came(s, k)); break; }
                case 2: { int w = near(0, 4); due("lesson(" + s + ", " + w + ")", x.lesson(s, w), m.lesson(s, w)); break; }
                case 3: due("stop(" + s + ")", x.stop(s), m.stop(s)); break;
                case 4: due("judge(" + s + ")", x.judge(s), m.judge(s)); break;
                case 5: { int w = near(0, 1); due("wrongFor(" + s + ", " + b + ", " + w + ")", x.wrongFor(s, b, w), m.wrongFor(s, b, w)); break; }
                case 6: due("fadesFor(" + s + ")", x.fadesFor(s), m.fadesFor(s)); break;
                default: due("which(" + s + ")", x.which(s), m.which(s));
            }
        }

        void shelfCall() {
            int s = near(0, 5), i = near(0, 8);
            switch (below(7)) {
                case 0: { int b = near(-1, m.bodies.size() - 1); due("keep(" + s + ", " + b + ")", x.keep(s, b), m.keep(s, b)); break; }
                case 1: { int k = near(0, 4), n = near(0, below(4) == 0 ? 60 : 9); due("row(" + s + ", " + k + ", " + n + ")", x.row(s, k, n), m.row(s, k, n)); break; }
                case 2: { long v = random.nextLong() >> below(64); due("put(" + s + ", " + i + ", " + v + ")", x.put(s, i, v), m.put(s, i, v)); break; }
                case 3: due("element(" + s + ", " + i + ")", x.element(s, i), m.element(s, i)); break;
                case 4: { int k = near(0, 7); due("taken(" + s + ", " + k + ")", x.taken(s, k), m.taken(s, k)); break; }
                default: { int o = near(0, 5), j = near(0, 5), n = near(0, 4); due("shift(" + s + ", " + i + ", " + o + ", " + j + ", " + n + ")", x.shift(s, i, o, j, n), m.shift(s, i, o, j, n)); }
            }
        }

        void bodyCall() {
            switch (below(5)) {
                case 0: { int k = near(0, 7); due("body(" + k + ")", x.body(k), m.body(k)); break; }
                case 1: { int i = near(0, 10); due("trace(" + i + ")", x.trace(i), m.trace(i)); break; }
                default: {
                    int b = near(0, Math.max(0, m.bodies.size() - 1)), a = near(0, 3), v = below(2) == 0 ? below(20) : random.nextInt();
                    due("act(" + b + ", " + a + ", " + v + ")", x.act(b, a, v), m.act(b, a, v));
                    due("count(4)", x.count(4), m.count(4));
                }
            }
        }
    }

    // ------------------------------------------------------------------ the model

    private static final class Refused extends RuntimeException {
        private static final long serialVersionUID = 1L;
        final int answer;
        Refused(int answer) { super(null, null, false, false); this.answer = answer; }
    }

    private static void need(boolean fine, int answer) {
        if (!fine) throw new Refused(answer);
    }

    private static final class Bar implements Cloneable {
        int right, wrong, marked, played, rightToday;
        Bar(int right, int wrong) { this.right = right; this.wrong = wrong; }
        Bar copy() { Bar b = new Bar(right, wrong); b.marked = marked; b.played = played; b.rightToday = rightToday; return b; }
        boolean lesson() { return right > wrong; }
        void more(boolean cameRight, int by) { if (cameRight) right = Math.min(999, right + by); else wrong = Math.min(999, wrong + by); }
    }

    private static final class Text {
        final String s;
        Text(String s) { this.s = s; }

        boolean whole() {
            TreeSet<Integer> ends = new TreeSet<>(List.of(0));
            TreeSet<Integer> starts = new TreeSet<>(List.of(0));
            for (int guard = 0; guard <= s.length() && !starts.isEmpty(); guard++) {
                ends = new TreeSet<>();
                for (int at : starts) ends.addAll(line(at));
                if (ends.contains(s.length())) return true;
                starts = step(ends, ";");
            }
            return false;
        }

        TreeSet<Integer> step(TreeSet<Integer> from, String signs) {
            TreeSet<Integer> out = new TreeSet<>();
            for (int at : from) if (at < s.length() && signs.indexOf(s.charAt(at)) >= 0) out.add(at + 1);
            return out;
        }

        TreeSet<Integer> line(int at) {
            TreeSet<Integer> first = many(0, at, 0), out = new TreeSet<>(first);
            for (int behind : step(first, "?")) out.addAll(many(0, behind, 0));
            return out;
        }

        TreeSet<Integer> many(int level, int at, int open) {
            if (level == 5) return operand(at, open);
            String signs = new String[] {"|", "&", "<=>", "+-", "*/%"}[level];
            TreeSet<Integer> out = many(level + 1, at, open), front = out;
            for (int n = 0; !front.isEmpty() && n < (level == 2 ? 1 : 200); n++) {
                TreeSet<Integer> next = new TreeSet<>();
                for (int behind : step(front, signs)) next.addAll(many(level + 1, behind, open));
                front = next;
                out = new TreeSet<>(out);
                out.addAll(next);
            }
            return out;
        }

        TreeSet<Integer> operand(int at, int open) {
            TreeSet<Integer> out = new TreeSet<>();
            if (at >= s.length()) return out;
            char c = s.charAt(at);
            for (int n = 1; n <= 4 && at + n <= s.length() && s.substring(at, at + n).matches("[0-9]+"); n++) out.add(at + n);
            if ("rwqsmn".indexOf(c) >= 0) out.add(at + 1);
            if ((c == '!' || c == '-') && open < 6) out.addAll(operand(at + 1, open + 1));
            if (c == '(' && open < 6) out.addAll(step(many(0, at + 1, open + 1), ")"));
            return out;
        }

        /** Whether some text begins so. */
        static boolean begins(String s) {
            for (String o : new String[] {"", "1"}) {
                String tail = s + o;
                for (int k = 0; k <= 6; k++, tail += ")") if (new Text(tail).whole()) return true;
            }
            return false;
        }

        static int fault(String s) {
            for (int i = 0; i < s.length(); i++) if (!begins(s.substring(0, i + 1))) return i;
            return new Text(s).whole() ? -1 : s.length();
        }
    }

    private static final class Worth {
        final String s;
        final int[] names;
        int at = 0;
        Worth(String s, int... names) { this.s = s; this.names = names; }

        static int of(String text, int... names) {
            for (String line : text.split(";")) {
                String[] parts = line.split("\\?");
                if (parts.length == 1) return new Worth(line, names).any();
                if (new Worth(parts[0], names).any() != 0) return new Worth(parts[1], names).any();
            }
            return 0;
        }

        boolean eat(char c) { if (at < s.length() && s.charAt(at) == c) { at++; return true; } return false; }
        int any() { int v = both(); while (eat('|')) { int o = both(); v = v != 0 | o != 0 ? 1 : 0; } return v; }
        int both() { int v = held(); while (eat('&')) { int o = held(); v = v != 0 & o != 0 ? 1 : 0; } return v; }
        int held() {
            int v = sum();
            if (eat('<')) return v < sum() ? 1 : 0;
            if (eat('=')) return v == sum() ? 1 : 0;
            if (eat('>')) return v > sum() ? 1 : 0;
            return v;
        }
        int sum() { int v = product(); while (true) { if (eat('+')) v += product(); else if (eat('-')) v -= product(); else return v; } }
        int product() {
            int v = one();
            while (true) {
                if (eat('*')) v *= one();
                else if (eat('/')) { int o = one(); v = o == 0 ? 0 : v / o; }
                else if (eat('%')) { int o = one(); v = o == 0 ? 0 : v % o; }
                else return v;
            }
        }
        int one() {
            if (eat('!')) return one() == 0 ? 1 : 0;
            if (eat('-')) return -one();
            if (eat('(')) { int v = any(); eat(')'); return v; }
            char c = s.charAt(at);
            if ("rwqsmn".indexOf(c) >= 0) { at++; return names["rwqsmn".indexOf(c)]; }
            int from = at;
            while (at < s.length() && Character.isDigit(s.charAt(at))) at++;
            return Integer.parseInt(s.substring(from, at));
        }
    }

    private interface Plays { int n(); List<Integer> t(); default int plays(int x) { t().add(1); return x + n(); } }
    private interface Tells { List<Integer> t(); int adds(int x); int fades(int x); default int tells(int x) { t().add(2); int a = adds(x); return a - fades(1); } }
    private static class Playing implements Plays, Tells {
        int n; List<Integer> t;
        public int n() { return n; }
        public List<Integer> t() { return t; }
        public int adds(int x) { t.add(10); return plays(x) * 2; }
        public int fades(int x) { t.add(11); return x ^ n; }
    }
    private static class Slow extends Playing { public int plays(int x) { t.add(20); return super.plays(x) + 3; } }
    private static class Marked extends Playing { public int adds(int x) { t.add(30); return -super.adds(x); } }
    private static class Night extends Marked {
        public int fades(int x) { t.add(40); return super.fades(x) * 3; }
        public int adds(int x) { t.add(41); return super.adds(x + 1); }
    }
    private static class Finger extends Slow { public int fades(int x) { t.add(50); int a = super.fades(x); return a - plays(2); } }
    private static class Lesson extends Night { public int tells(int x) { t.add(60); return super.tells(x) ^ 5; } }
    private static class Heard extends Playing { public int plays(int x) { t.add(70); return super.plays(x) * 2; } }
    private static class Sharp extends Finger {
        public int adds(int x) { t.add(80); int a = super.adds(x); return a + fades(2); }
        public int tells(int x) { t.add(81); return super.tells(x) - 1; }
    }

    private static final class Model {
        List<Bar> bars = new ArrayList<>();
        int[] habits = {20, 10, 2, 1, 12};
        StringBuilder tape = new StringBuilder();
        String law = null;
        Object[] shelves = new Object[6];
        List<Playing> bodies = new ArrayList<>();
        List<Integer> ran = new ArrayList<>();
        List<int[]> done = new ArrayList<>(), undone = new ArrayList<>();
        int[] led = new int[5];
        List<Bar> image = null;
        int[] imageLed = null;

        // -- bars
        boolean in(int v, int a, int b) { return v >= a && v <= b; }
        boolean isBar(int b) { return in(b, 0, bars.size() - 1); }

        int bar(int r, int w) {
            if (!in(r, 0, 999) || !in(w, 0, 999)) return -1;
            if (bars.size() == 12) return -3;
            bars.add(new Bar(r, w));
            return bars.size() - 1;
        }

        int bars(int shelf, int i, int n) {
            if (!in(shelf, 0, 5) || !in(n, 1, 12)) return -1;
            if (shelves[shelf] != null && !(shelves[shelf] instanceof short[])) return -12;
            int came = 0;
            try {
                short[] row = (short[]) shelves[shelf];
                for (; came < n; came++) if (bar(row[i + 2 * came], row[i + 2 * came + 1]) < 0) break;
            } catch (NullPointerException | IndexOutOfBoundsException end) {
                return came;
            }
            return came;
        }

        int get(int n, int what) {
            if (what < 3) { Bar b = bars.get(n); return what == 0 ? b.right : what == 1 ? b.wrong : b.marked; }
            return habits[what - 3];
        }

        void set(int n, int what, int v) {
            if (what == 0) bars.get(n).right = v;
            else if (what == 1) bars.get(n).wrong = v;
            else if (what == 2) bars.get(n).marked = v;
            else habits[what - 3] = v;
        }

        int mend(int n, int what, int v) {
            if (of(n, what) == -1 || what > 7) return -1;
            int[] most = {999, 999, 1, 99, 99, 12, 9, 99};
            if (!in(v, 0, most[what])) return -1;
            int was = get(n, what);
            if (was == v) return was;
            set(n, what, v);
            undone.clear();
            done.add(new int[] {n, what, was, v});
            if (done.size() > 40) done.remove(0);
            return was;
        }

        int of(int n, int what) {
            if (what == 10 || what == 11) return !isBar(n) ? -1 : what == 10 ? bars.get(n).played : bars.get(n).rightToday;
            if (!in(what, 0, 7)) return -1;
            return (what < 3 ? isBar(n) : n == 0) ? get(n, what) : -1;
        }

        int undo() {
            if (done.isEmpty()) return -5;
            int[] c = done.remove(done.size() - 1);
            undone.add(c);
            set(c[0], c[1], c[2]);
            return done.size();
        }

        int redo() {
            if (undone.isEmpty()) return -5;
            int[] c = undone.remove(undone.size() - 1);
            done.add(c);
            set(c[0], c[1], c[3]);
            return undone.size();
        }

        int feed(int letter) {
            if (!in(letter, 0, 255)) return -1;
            if (tape.length() == 120) return -3;
            tape.append((char) letter);
            return tape.length();
        }

        int law() {
            String text = tape.toString();
            tape.setLength(0);
            int fault = Text.fault(text);
            if (fault >= 0) return -100 - fault;
            law = text;
            return 1;
        }

        boolean comes(Bar b, int slow) {
            return b.right + (slow == 1 ? habits[0] : 0) + (b.marked == 1 ? habits[1] : 0) > b.wrong;
        }

        int gives(Bar b, int slow) {
            int q = comes(b, slow) ? 1 : 0;
            if (law == null) return Math.max(1, 6 + 2 * q - 2 * slow - b.played);
            return Math.min(99, Math.max(0, Worth.of(law, b.right, b.wrong, q, slow, b.marked, b.played)));
        }

        boolean playIt(Bar b, int slow) {
            boolean came = comes(b, slow);
            b.more(came, gives(b, slow));
            b.played++;
            if (came) b.rightToday++;
            return came;
        }

        void sleep(Bar b, int fades) {
            b.right -= b.right * fades / 12;
            b.wrong -= b.wrong * fades / 12;
            b.wrong = Math.min(999, b.wrong + habits[3] * b.rightToday / 2);
            b.played = b.rightToday = 0;
        }

        int playing(int b, int slow, int what) {
            if (!isBar(b) || !in(slow, 0, 1) || !in(what, 0, 1)) return -1;
            return what == 1 ? gives(bars.get(b), slow) : comes(bars.get(b), slow) ? 1 : 0;
        }

        // -- plans
        List<Bar> copy() { List<Bar> out = new ArrayList<>(); for (Bar b : bars) out.add(b.copy()); return out; }

        byte[] bytes(int shelf) {
            need(shelves[shelf] != null, -11);
            need(shelves[shelf] instanceof byte[], -12);
            return (byte[]) shelves[shelf];
        }

        /** How it came: 1, 0, -2 a night, null: no plan has it. */
        Integer step(List<Bar> on, int v, int fades) {
            if (v == 60) { for (Bar b : on) sleep(b, fades); return -2; }
            int slow = in(v, 20, 31) ? 1 : 0, b = v - 20 * slow;
            if (!in(b, 0, 11) || b >= on.size()) return null;
            return playIt(on.get(b), slow) ? 1 : 0;
        }

        List<Integer> walk(List<Bar> on, byte[] plan) {
            List<Integer> came = new ArrayList<>();
            for (byte v : plan) {
                Integer c = step(on, v, habits[2]);
                if (c == null) break;
                came.add(c);
            }
            return came;
        }

        int plan(int shelf, int b, int what) {
            try {
                need(in(shelf, 0, 5) && isBar(b) && in(what, 0, 1), -1);
                List<Bar> on = copy();
                walk(on, bytes(shelf));
                return what == 0 ? on.get(b).right : on.get(b).wrong;
            } catch (Refused r) { return r.answer; }
        }

        int came(int shelf, int k) {
            try {
                need(in(shelf, 0, 5) && k >= 0, -1);
                List<Integer> came = walk(copy(), bytes(shelf));
                return k < came.size() ? came.get(k) : -2;
            } catch (Refused r) { return r.answer; }
        }

        int rightOnes(List<Bar> on) { return (int) on.stream().filter(Bar::lesson).count(); }

        int slip(List<Bar> on) {
            for (int i = 0; i < on.size(); i++) if (!on.get(i).lesson()) return i;
            return -2;
        }

        int lesson(int shelf, int what) {
            try {
                need(in(shelf, 0, 5) && in(what, 0, 4), -1);
                List<Bar> on = copy();
                List<Integer> came = walk(on, bytes(shelf));
                int bits = 0;
                for (int i = 0; i < on.size(); i++) if (on.get(i).lesson()) bits += 1 << i;
                return new int[] {rightOnes(on), bits, slip(on), (int) came.stream().filter(c -> c == 1).count(), came.size()}[what];
            } catch (Refused r) { return r.answer; }
        }

        int timesOf(Bar b, int slow) {
            Bar c = b.copy();
            int n = 0;
            while (!c.lesson() && n < 100) { playIt(c, slow); n++; }
            return n < 100 ? n : -2;
        }

        int times(int b, int slow) { return !isBar(b) || !in(slow, 0, 1) ? -1 : timesOf(bars.get(b), slow); }

        int stays(int b) {
            if (!isBar(b)) return -1;
            Bar c = bars.get(b).copy();
            int nights = -1;
            while (c.lesson() && nights < 99) { nights++; sleep(c, habits[2]); }
            return nights < 0 ? -2 : nights;
        }

        int with(int n, int what) {
            if (!in(n, 0, 60) || !in(what, 0, 2)) return -1;
            int[] cost = new int[bars.size()];
            Arrays.fill(cost, 10000);
            for (int b = 0; b < cost.length; b++) {
                for (int k = 60; k >= 0; k--) {
                    Bar c = bars.get(b).copy();
                    for (int i = 0; i < k; i++) playIt(c, 1);
                    sleep(c, habits[2]);
                    if (c.lesson()) cost[b] = k;
                }
            }
            int bestCount = -1, bestSum = 0, bestBits = 0;
            for (int bits = 0; bits < 1 << cost.length; bits++) {
                int sum = 0;
                for (int b = 0; b < cost.length; b++) if ((bits >> b & 1) == 1) sum += cost[b];
                int count = Integer.bitCount(bits);
                if (sum <= n && (count > bestCount || count == bestCount && sum < bestSum)) {
                    bestCount = count;
                    bestSum = sum;
                    bestBits = bits;
                }
            }
            return new int[] {bestCount, bestBits, bestSum}[what];
        }

        int spread(int b, int nd, int day) {
            if (!isBar(b) || nd < 0) return -2000000000;
            int n = nd / 10, d = nd % 10;
            if (n > 12 || d < 1 || d > 5 || day < -1 || day >= d) return -2000000000;
            int bestLead = Integer.MIN_VALUE;
            int[] best = null;
            int all = 1;
            for (int i = 0; i < d; i++) all *= n + 1;
            // counted down with the last day as the highest digit: the first of like ones is the one wanted
            for (int c = all - 1; c >= 0; c--) {
                int[] on = new int[d];
                int rest = c, sum = 0;
                for (int i = 0; i < d; i++) { on[i] = rest % (n + 1); rest /= n + 1; sum += on[i]; }
                if (sum != n) continue;
                Bar t = bars.get(b).copy();
                for (int times : on) { for (int i = 0; i < times; i++) playIt(t, 1); sleep(t, habits[2]); }
                if (t.right - t.wrong > bestLead) { bestLead = t.right - t.wrong; best = on; }
            }
            return day < 0 ? bestLead : best[day];
        }

        int stop(int shelf) {
            try {
                need(in(shelf, 0, 5), -1);
                byte[] plan = bytes(shelf);
                List<Bar> on = copy();
                int all = walk(on, plan).size();
                for (int k = 0; k < all; k++) {
                    List<Bar> part = copy();
                    walk(part, Arrays.copyOf(plan, k));
                    if (rightOnes(part) >= rightOnes(on)) return k;
                }
                return all;
            } catch (Refused r) { return r.answer; }
        }

        int finger(int b, int what) {
            if (!isBar(b) || !in(what, 0, 1)) return -2000000000;
            Bar c = bars.get(b).copy();
            c.right = c.wrong = 0;
            int then = timesOf(c, 0), is = timesOf(bars.get(b), 0);
            int fewer = (is == -2 ? 1000 : is) - (habits[4] + (then == -2 ? 1000 : then));
            return what == 1 ? fewer : fewer > 0 ? 1 : 0;
        }

        int whole(int what) {
            if (!in(what, 0, 1)) return -1;
            if (what == 1) {
                int sum = 0;
                for (Bar b : bars) { int t = timesOf(b, 0); if (t == -2) return -2; sum += t; }
                return sum;
            }
            List<Bar> on = copy();
            for (int n = 0; n <= 60; n++) {
                if (slip(on) == -2) return n;
                for (Bar b : on) if (!playIt(b, 0)) break;
            }
            return -2;
        }

        // -- odds, heard
        long odds(int b, int part) {
            if (!isBar(b) || !in(part, 0, 1)) return Long.MIN_VALUE;
            int r = bars.get(b).right, both = r + bars.get(b).wrong;
            if (both == 0) return part + 1;
            int g = java.math.BigInteger.valueOf(r).gcd(java.math.BigInteger.valueOf(both)).intValue();
            return (part == 0 ? r : both) / g;
        }

        int all() {
            long v = 1000000;
            for (Bar b : bars) v = b.right + b.wrong == 0 ? v / 2 : v * b.right / (b.right + b.wrong);
            return (int) v;
        }

        int unlike(List<Bar> on, byte[] heard, int fades) {
            for (int k = 0; k < (heard.length + 1) / 2; k++) {
                Integer c = step(on, heard[2 * k], fades);
                if (c == null) return k;
                int told = 2 * k + 1 == heard.length ? 99 : heard[2 * k + 1];
                if (c >= 0 && (told == 1 || told == 0) && told != c) return k;
            }
            return -2;
        }

        int judge(int shelf) {
            try { need(in(shelf, 0, 5), -1); return unlike(copy(), bytes(shelf), habits[2]); } catch (Refused r) { return r.answer; }
        }

        int wrongFor(int shelf, int b, int what) {
            try {
                need(in(shelf, 0, 5) && isBar(b) && in(what, 0, 1), -1);
                byte[] heard = bytes(shelf);
                int least = -2, greatest = -2;
                for (int w = 0; w < 1000; w++) {
                    List<Bar> on = copy();
                    on.get(b).wrong = w;
                    if (unlike(on, heard, habits[2]) == -2) { greatest = w; if (least == -2) least = w; }
                }
                return what == 0 ? least : greatest;
            } catch (Refused r) { return r.answer; }
        }

        int fadesFor(int shelf) {
            try {
                need(in(shelf, 0, 5), -1);
                byte[] heard = bytes(shelf);
                for (int f = 0; f <= 12; f++) if (unlike(copy(), heard, f) == -2) return f;
                return -2;
            } catch (Refused r) { return r.answer; }
        }

        int which(int shelf) {
            try {
                need(in(shelf, 0, 5), -1);
                byte[] heard = bytes(shelf);
                int bits = 0;
                for (int i = 0; i < bars.size(); i++) {
                    Bar b = bars.get(i).copy();
                    boolean fits = true;
                    for (byte told : heard) {
                        boolean came = playIt(b, 0);
                        if (told == 1 && !came || told == 0 && came) fits = false;
                        sleep(b, habits[2]);
                    }
                    if (fits) bits |= 1 << i;
                }
                return bits;
            } catch (Refused r) { return r.answer; }
        }

        int hearing(int ab, int n, int what) {
            if (ab < 0 || !isBar(ab / 100) || !isBar(ab % 100) || !in(n, 0, 30) || !in(what, 0, 2)) return -2000000000;
            Bar a = bars.get(ab / 100).copy(), b = bars.get(ab % 100).copy();
            int first = -2;
            for (int day = 0; day < n; day++) {
                int ga = gives(a, 0), gb = gives(b, 0);
                boolean ca = playIt(a, 0), cb = playIt(b, 0);
                a.more(cb, gb / 2);
                b.more(ca, ga / 2);
                if (ca && cb && first < 0) first = day;
                sleep(a, habits[2]);
                sleep(b, habits[2]);
            }
            return new int[] {a.right - a.wrong, b.right - b.wrong, first}[what];
        }

        int drawn(int seed, int n, int what) {
            if (!in(n, 1, 30) || !in(what, 0, 1)) return -1;
            int z = seed, clean = 0, rights = 0;
            for (int i = 0; i < n; i++) {
                boolean slip = false;
                for (Bar b : bars) {
                    z = z * 1103515245 + 12345;
                    int both = b.right + b.wrong;
                    boolean came = both == 0 ? (z >>> 8) % 2 < 1 : (z >>> 8) % both < b.right;
                    if (came) rights++; else slip = true;
                }
                if (!slip) clean++;
            }
            return what == 0 ? clean : rights;
        }

        // -- in deed
        int play(int b, int slow) {
            if (!isBar(b) || !in(slow, 0, 1)) return -1;
            boolean came = playIt(bars.get(b), slow);
            led[0]++;
            if (came) led[1]++;
            return came ? 1 : 0;
        }

        int night() { for (Bar b : bars) sleep(b, habits[2]); return ++led[2]; }
        int thursday() { led[3]++; led[4] = Math.max(led[4], rightOnes(bars)); return rightOnes(bars); }
        int led(int what) { return in(what, 0, 4) ? led[what] : -1; }
        int image() { image = copy(); imageLed = led.clone(); return led[0]; }

        int back() {
            if (image == null) return -5;
            for (int i = 0; i < image.size(); i++) {
                Bar b = image.get(i).copy();
                b.marked = bars.get(i).marked;
                bars.set(i, b);
            }
            led = imageLed.clone();
            return led[0];
        }

        // -- acts, shelves
        int body(int kind) {
            if (!in(kind, 0, 7)) return -1;
            if (bodies.size() == 50) return -3;
            Playing p = new Playing[] {new Playing(), new Slow(), new Marked(), new Night(), new Finger(), new Lesson(), new Heard(), new Sharp()}[kind];
            p.n = bodies.size();
            bodies.add(p);
            return p.n;
        }

        int act(int body, int act, int x) {
            ran = new ArrayList<>();
            if (!in(body, 0, bodies.size() - 1) || !in(act, 0, 3)) return 0;
            Playing p = bodies.get(body);
            p.t = ran;
            return act == 0 ? p.plays(x) : act == 1 ? p.adds(x) : act == 2 ? p.fades(x) : p.tells(x);
        }

        int trace(int i) { return in(i, 0, Math.min(24, ran.size()) - 1) ? ran.get(i) : -1; }

        int keep(int shelf, int body) {
            if (!in(shelf, 0, 5) || !in(body, -1, bodies.size() - 1)) return -1;
            shelves[shelf] = body < 0 ? null : bodies.get(body);
            return 1;
        }

        int row(int shelf, int sort, int n) {
            if (!in(shelf, 0, 5) || !in(sort, 0, 4) || n > 60) return -1;
            if (n < 0) return -14;
            shelves[shelf] = sort == 0 ? new byte[n] : sort == 1 ? new short[n] : sort == 2 ? new int[n] : sort == 3 ? (Object) new long[n] : new boolean[n];
            return 1;
        }

        int put(int shelf, int i, long v) {
            if (!in(shelf, 0, 5)) return -1;
            Object o = shelves[shelf];
            if (o == null) return -11;
            try {
                if (o instanceof byte[]) ((byte[]) o)[i] = (byte) v;
                else if (o instanceof short[]) ((short[]) o)[i] = (short) v;
                else if (o instanceof int[]) ((int[]) o)[i] = (int) v;
                else if (o instanceof long[]) ((long[]) o)[i] = v;
                else if (o instanceof boolean[]) ((boolean[]) o)[i] = v != 0;
                else return -12;
            } catch (IndexOutOfBoundsException e) {
                return -13;
            }
            return 1;
        }

        long element(int shelf, int i) {
            if (!in(shelf, 0, 5) || shelves[shelf] == null || shelves[shelf] instanceof Playing) return Long.MIN_VALUE;
            Object o = shelves[shelf];
            if (!in(i, 0, java.lang.reflect.Array.getLength(o) - 1)) return Long.MIN_VALUE;
            if (o instanceof boolean[]) return ((boolean[]) o)[i] ? 1 : 0;
            return ((Number) java.lang.reflect.Array.get(o, i)).longValue();
        }

        int shift(int shelf, int i, int other, int j, int n) {
            if (!in(shelf, 0, 5) || !in(other, 0, 5)) return -1;
            try {
                System.arraycopy(shelves[shelf], i, shelves[other], j, n);
            } catch (NullPointerException e) {
                return -11;
            } catch (ArrayStoreException e) {
                return -12;
            } catch (IndexOutOfBoundsException e) {
                return -13;
            }
            return n;
        }

        int taken(int shelf, int k) {
            if (!in(shelf, 0, 5) || !in(k, 0, 7)) return -1;
            if (shelves[shelf] == null) return -11;
            List<Class<?>> kinds = List.of(Playing.class, Slow.class, Marked.class, Night.class, Finger.class, Lesson.class, Heard.class, Sharp.class);
            return kinds.get(k).isInstance(shelves[shelf]) ? kinds.indexOf(shelves[shelf].getClass()) : -12;
        }

        int count(int what) {
            return in(what, 0, 4) ? new int[] {bars.size(), tape.length(), done.size(), bodies.size(), ran.size()}[what] : -1;
        }
    }
}
