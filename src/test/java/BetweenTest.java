import java.util.ArrayList;
import java.util.List;

/**
 * Calls of all kinds between each other, up to the 512 that an object is used for: laws between plans,
 * deeds between undone and done again, images laid back behind bars that came since, rows made anew.
 */
public final class BetweenTest {
    private static final int CALLS = 512;

    private static void says(String words) {
        Told.says(words);
    }

    private static void due(String call, long got, long want) {
        Told.due(call, got, want);
    }

    public static void main(String[] args) {
        lawsBetweenPlans(); lawsBetweenDeeds(); tapeBetween(); habitsBetween();
        deedsBetweenChanges(); imageBetweenChanges(); barsSinceTheImage(); imagesAnew(); noImage();
        rowsAnew(); refusedRows(); plansAnew(); rowsShifted(); bodiesOnShelves(); traceBetween();
        questionsBetween(); deedsThoughtAhead();
        manyPlayings(); manyNights(); manyChanges(); manyLetters(); manyLaws(); manyBodies(); manyImages(); manyRows(); manyBars(); manyLessons();
        Told.end("between");
    }

    private static void planned(PractisedWrong x, int right, int wrong) {
        due("right then", x.plan(0, 0, 0), right);
        due("wrong then", x.plan(0, 0, 1), wrong);
    }

    // ---- laws

    private static void lawsBetweenPlans() {
        says("what each playing adds by a law told as a text");
        PractisedWrong x = Told.lasting(20, 30);
        Told.bytes(x, 0, 0, 20, 0);
        // wrong by 6, slowly right by 5 (40 and 36), wrong by 4
        planned(x, 25, 40);
        due("times", x.times(0, 1), 2);
        due("spread", x.spread(0, 31, -1), 5);
        due("with", x.with(10, 2), 2);
        due("hearing", x.hearing(0, 1, 0), -19);
        due("law", Told.tell(x, "q*9+2"), 1);
        planned(x, 31, 34);
        due("times", x.times(0, 1), 1);
        due("spread", x.spread(0, 31, -1), 23);
        due("with", x.with(10, 2), 1);
        due("hearing", x.hearing(0, 1, 0), -13);
        says("THE TAPE becomes THE LAW: 1; -100 less its FAULT; THE TAPE is empty then.");
        due("a fault", Told.tell(x, "q*9+"), -104);
        due("the law stays", x.playing(0, 1, 1), 11);
        planned(x, 31, 34);
        due("no tape", x.count(1), 0);
        x.feed('7');
        planned(x, 31, 34);
        due("the tape is no law yet", x.playing(0, 1, 1), 11);
        due("law", x.law(), 1);
        // wrong by 7, slowly right by 7 (40 and 37), wrong by 7
        planned(x, 27, 44);
        due("nothing is added in thought", x.of(0, 0) * 1000 + x.of(0, 1), 20030);
    }

    private static void lawsBetweenDeeds() {
        says("n how many times the BAR was played that day ahead");
        PractisedWrong x = Told.lasting(20, 30);
        Told.bytes(x, 0, 0, 20, 0);
        Told.tell(x, "7");
        due("image", x.image(), 0);
        due("play", x.play(0, 1), 1);
        due("by 7", x.of(0, 0), 27);
        due("law", Told.tell(x, "n*5"), 1);
        // wrong by 5, slowly right by 10 (47 and 35), right by 15 (37 and 35)
        planned(x, 52, 35);
        due("came right", x.lesson(0, 3), 2);
        due("night", x.night(), 1);
        // wrong by 0, slowly right by 5, right by 10 (32 and 30)
        planned(x, 42, 30);
        due("an image does not keep the law", x.back(), 0);
        due("laid back", x.of(0, 0), 20);
        due("the law is the latest", x.playing(0, 0, 1), 0);
        // wrong by 0, slowly right by 5 (40 and 30), wrong by 10 (25 and 30)
        planned(x, 25, 40);
        due("play", x.play(0, 0), 0);
        due("the first by 0", x.of(0, 1), 30);
        due("play", x.play(0, 0), 0);
        due("the second by 5", x.of(0, 1), 35);
        due("no change", x.count(2), 2);
    }

    private static void tapeBetween() {
        says("A byte (0 .. 255) comes to THE TAPE: how many it has.");
        PractisedWrong x = Told.lasting(20, 30);
        String text = "w>r?4+n;3";
        for (int i = 0; i < text.length(); i++) {
            due("feed", x.feed(text.charAt(i)), i + 1);
            // none of these takes or brings a byte
            x.bar(1, 2);
            x.play(0, 0);
            x.night();
            x.image();
            x.back();
            x.mend(0, 4, i + 20);
            x.undo();
            Told.bytes(x, 0, text.charAt(i));
            x.lesson(0, 0);
            x.body(0);
            x.act(0, 3, 1);
            due("count", x.count(1), i + 1);
        }
        due("law", x.law(), 1);
        due("wrong: 4", x.playing(0, 0, 1), 4);
        x.play(0, 0);
        due("wrong: 5", x.playing(0, 0, 1), 5);
        x.mend(0, 0, 500);
        due("right: 3", x.playing(0, 0, 1), 3);
    }

    private static void habitsBetween() {
        says("for how many NIGHTS (0 .. 99), unplayed, a BAR comes RIGHT in a LESSON");
        PractisedWrong x = Told.piece(80, 20);
        due("stays", x.stays(0), 17);
        x.mend(0, 5, 5);
        // 47 12, 28 7, 17 5, 10 3, 6 2, 4 2, 3 2, then 2 2
        due("stays by 5 twelfths", x.stays(0), 7);
        due("undo", x.undo(), 0);
        due("stays", x.stays(0), 17);
        due("redo", x.redo(), 0);
        due("stays by 5 twelfths", x.stays(0), 7);
        x.night();
        due("a night by 5 twelfths", x.of(0, 0) * 1000 + x.of(0, 1), 47012);
        due("undo", x.undo(), 0);
        x.night();
        due("a night by 2", x.of(0, 0) * 1000 + x.of(0, 1), 40010);
        says("FINGER (0 .. 99; 12 at first: how many playings a new finger costs).");
        due("never less", x.finger(0, 1), -1012);
        x.mend(0, 7, 0);
        due("never less", x.finger(0, 1), -1000);
        x.mend(0, 2, 1);
        // marked it comes right by the first playing
        due("by 1", x.finger(0, 1), -1);
        x.undo();
        x.undo();
        due("never less", x.finger(0, 1), -1012);
    }

    // ---- changes, deeds, images

    private static void deedsBetweenChanges() {
        says("can be UNDONE, the latest first, and DONE AGAIN (as long as no other came behind); 40 at most are kept; deeds are none.");
        PractisedWrong x = Told.piece(10, 30);
        x.mend(0, 5, 0);
        x.undo();
        x.mend(0, 5, 0);
        due("right", x.mend(0, 0, 50), 10);
        due("slowly", x.mend(0, 3, 0), 20);
        due("play", x.play(0, 1), 1);
        due("by 6", x.of(0, 0), 56);
        due("undo: slowly", x.undo(), 2);
        due("as it was", x.of(0, 3), 20);
        due("play", x.play(0, 0), 1);
        due("by 7", x.of(0, 0), 63);
        due("undo: right", x.undo(), 1);
        due("as it was ahead of mend()", x.of(0, 0), 10);
        due("play", x.play(0, 0), 0);
        due("wrong by 4", x.of(0, 1), 34);
        due("night", x.night(), 1);
        due("brings back one", x.of(0, 1), 35);
        due("thursday", x.thursday(), 0);
        due("law", Told.tell(x, "9"), 1);
        due("a bar is no change", x.bar(5, 5), 1);
        due("image", x.image(), 3);
        due("back", x.back(), 3);
        due("changes", x.count(2), 1);
        due("redo: right", x.redo(), 1);
        due("as told", x.of(0, 0), 50);
        due("wrong stays", x.of(0, 1), 35);
        due("play", x.play(0, 0), 1);
        due("by 9", x.of(0, 0), 59);
        due("redo: slowly", x.redo(), 0);
        due("as told", x.of(0, 3), 0);
        due("right stays", x.of(0, 0), 59);
        due("no more", x.redo(), -5);
        due("changes", x.count(2), 3);
        says("telling the same number is none");
        due("undo", x.undo(), 2);
        due("the same", x.mend(1, 0, 5), 5);
        due("the same", x.mend(0, 3, 20), 20);
        due("refused", x.mend(0, 3, 100), -1);
        due("redo", x.redo(), 0);
        due("as told", x.of(0, 3), 0);
        says("as long as no other came behind");
        x.undo();
        due("undo", x.undo(), 1);
        due("another one", x.mend(1, 2, 1), 0);
        due("gone", x.redo(), -5);
        due("changes", x.count(2), 2);
        due("undone it stays", x.of(0, 0), 10);
        due("played", x.led(0), 4);
    }

    private static void imageBetweenChanges() {
        says("AN IMAGE keeps RIGHT, WRONG of all BARS, what was played that day, what LED tells.");
        PractisedWrong x = Told.lasting(10, 30);
        x.mend(0, 0, 50);
        x.mend(0, 2, 1);
        due("image", x.image(), 0);
        due("undo", x.undo(), 3);
        due("undo", x.undo(), 2);
        due("right", x.of(0, 0), 10);
        due("back", x.back(), 0);
        due("right of the image", x.of(0, 0), 50);
        due("the mark is none of it", x.of(0, 2), 0);
        due("changes stay undone", x.count(2), 2);
        due("redo: right", x.redo(), 1);
        due("as told", x.of(0, 0), 50);
        due("redo: marked", x.redo(), 0);
        due("as told", x.of(0, 2), 1);
        x.mend(0, 1, 0);
        x.mend(0, 4, 0);
        due("image", x.back(), 0);
        due("wrong of the image", x.of(0, 1), 30);
        due("MARK is none of it", x.of(0, 4), 0);
        due("changes", x.count(2), 6);
        x.undo();
        due("undo: wrong", x.undo(), 4);
        due("to what it was ahead of mend()", x.of(0, 1), 30);
        due("redo: wrong", x.redo(), 1);
        due("as told", x.of(0, 1), 0);
    }

    private static void barsSinceTheImage() {
        says("It is laid back (BARS that came since stay as they are): PLAYINGS.");
        PractisedWrong x = Told.lasting(10, 30);
        due("play", x.play(0, 0), 0);
        due("image", x.image(), 1);
        due("bar", x.bar(40, 2), 1);
        due("play", x.play(1, 0), 1);
        due("play", x.play(0, 0), 0);
        due("night", x.night(), 1);
        due("play", x.play(1, 0), 1);
        due("mark", x.mend(0, 2, 1), 0);
        due("thursday", x.thursday(), 1);
        due("back", x.back(), 1);
        due("wrong", x.of(0, 1), 36);
        due("played", x.of(0, 10), 1);
        due("came right", x.of(0, 11), 0);
        due("since: right", x.of(1, 0), 56);
        due("since: played", x.of(1, 10), 1);
        due("since: came right", x.of(1, 11), 1);
        due("bars", x.count(0), 2);
        due("led", x.led(0), 1);
        for (int what = 1; what < 5; what++) {
            due("led", x.led(what), 0);
        }
        Told.bytes(x, 0, 0, 1);
        // from now: wrong by 6 less 1 (20 and 36, marked), right by 6 and 2 less 1
        due("in thought", x.plan(0, 0, 1), 41);
        due("in thought", x.plan(0, 1, 0), 63);
        due("play", x.play(0, 0), 0);
        due("wrong", x.of(0, 1), 41);
        due("the image still is there", x.back(), 1);
        due("wrong", x.of(0, 1), 36);
        Told.row(x, 1, Told.SHORTS, 7, 8, 9);
        due("bars", x.bars(1, 0, 2), 1);
        due("play", x.play(2, 0), 0);
        due("back", x.back(), 1);
        due("bars", x.count(0), 3);
        due("since: wrong", x.of(2, 1), 14);
        due("since: played", x.of(2, 10), 1);
        due("lesson of all", x.thursday(), 1);
    }

    private static void imagesAnew() {
        says("AN IMAGE is kept: PLAYINGS.");
        PractisedWrong x = Told.lasting(10, 30);
        due("image", x.image(), 0);
        x.bar(40, 2);
        x.play(1, 0);
        due("a later one", x.image(), 1);
        x.play(1, 0);
        x.play(0, 0);
        x.thursday();
        due("back", x.back(), 1);
        due("with the second bar", x.of(1, 0) * 100 + x.of(1, 10), 4801);
        due("and the first", x.of(0, 1) * 100 + x.of(0, 10), 3000);
        due("lessons", x.led(3), 0);
        x.night();
        due("nights", x.led(2), 1);
        due("one with a night", x.image(), 1);
        x.night();
        x.thursday();
        due("back", x.back(), 1);
        due("nights", x.led(2), 1);
        due("lessons", x.led(3), 0);
        due("the most", x.led(4), 0);
        due("the night counts on", x.night(), 2);
    }

    private static void noImage() {
        says("STATE: there is none.");
        PractisedWrong x = Told.lasting(10, 30);
        x.play(0, 0);
        x.thursday();
        due("back", x.back(), -5);
        due("wrong", x.of(0, 1), 36);
        due("played", x.of(0, 10), 1);
        due("led", x.led(0) * 10 + x.led(3), 11);
    }

    // ---- rows, bodies

    private static void rowsAnew() {
        says("of 0 .. 60 elements, 0 at first (false)");
        for (int first = -1; first <= 5; first++) {
            for (int sort = 0; sort <= 4; sort++) {
                PractisedWrong x = new PractisedWrong();
                x.body(3);
                x.row(2, 3, 60);
                for (int i = 0; i < 60; i++) {
                    x.put(2, i, -1);
                }
                heldFirst(x, first);
                due("row", x.row(2, sort, 20), 1);
                for (int i = 0; i < 20; i++) {
                    due("0 at first", x.element(2, i), 0);
                    x.put(2, i, 70000 + i);
                }
                due("a place that is not there", x.put(2, 20, 1), -13);
                due("a longer one", x.row(2, sort, 60), 1);
                for (int i = 0; i < 60; i++) {
                    due("0 at first", x.element(2, i), 0);
                }
                due("one of nothing", x.row(2, sort, 0), 1);
                due("no place", x.put(2, 0, 1), -13);
                due("no PLAYING", x.taken(2, 0), -12);
            }
        }
    }

    /** Nothing (-1), a row of a sort (0 .. 4), or a body (5). */
    private static void heldFirst(PractisedWrong x, int first) {
        if (first < 0 || first > 4) {
            x.keep(2, first < 0 ? -1 : 0);
            return;
        }
        x.row(2, first, 60);
        for (int i = 0; i < 60; i++) {
            x.put(2, i, -1);
        }
    }

    private static void refusedRows() {
        says("What is answered so changes nothing.");
        PractisedWrong x = Told.piece(20, 30);
        x.body(3);
        Told.bytes(x, 0, 20, 20, 60);
        due("ahead", x.lesson(0, 4), 3);
        due("a sort that is none", x.row(0, 5, 1), -1);
        due("61", x.row(0, 1, 61), -1);
        due("below 0", x.row(0, 1, -1), -14);
        due("no such body", x.keep(0, 1), -1);
        due("no such body", x.keep(0, -2), -1);
        due("behind the end", x.put(0, 3, 60), -13);
        due("into itself", x.shift(0, 1, 0, 2, 2), -13);
        due("behind", x.lesson(0, 4), 3);
        due("behind", x.element(0, 0) * 10000 + x.element(0, 1) * 100 + x.element(0, 2), 202060);
    }

    private static void plansAnew() {
        says("-12 it is of another kind");
        PractisedWrong x = Told.lasting(20, 30);
        x.body(3);
        Told.bytes(x, 0, 0, 20, 0);
        planned(x, 25, 40);
        due("two bytes anew", x.row(0, 0, 2), 1);
        // bar 0 twice: wrong by 6 and by 5
        planned(x, 20, 41);
        due("shorts", x.row(0, 1, 2), 1);
        planned(x, -12, -12);
        due("none came", x.came(0, 0), -12);
        due("bars of 0", x.bars(0, 0, 1), 1);
        due("a body", x.keep(0, 0), 1);
        planned(x, -12, -12);
        due("no shorts", x.bars(0, 0, 1), -12);
        due("judge", x.judge(0), -12);
        says("-11 nothing is there where something is wanted");
        due("nothing", x.keep(0, -1), 1);
        planned(x, -11, -11);
        due("nothing is missing", x.bars(0, 0, 1), 0);
        due("judge", x.judge(0), -11);
        due("taken", x.taken(0, 0), -11);
        says("A PLAN: a ROW of bytes on a SHELF (60 at most), from now, in thought");
        due("bytes", x.row(0, 0, 1), 1);
        planned(x, 20, 36);
        due("the bar that came counts, too", x.plan(0, 1, 0), 0);
        x.put(0, 0, 60);
        planned(x, 20, 30);
        due("a night does not come", x.came(0, 0), -2);
    }

    private static void rowsShifted() {
        says("n elements of a ROW from i on come to another one (or the same) from j on, as they all were before: n.");
        PractisedWrong x = new PractisedWrong();
        Told.row(x, 0, Told.INTS, 1, 2, 3, 4, 5);
        due("up in itself", x.shift(0, 0, 0, 1, 4), 4);
        for (int i = 0; i < 5; i++) {
            due("element", x.element(0, i), new int[] {1, 1, 2, 3, 4}[i]);
        }
        due("down in itself", x.shift(0, 2, 0, 0, 3), 3);
        for (int i = 0; i < 5; i++) {
            due("element", x.element(0, i), new int[] {2, 3, 4, 3, 4}[i]);
        }
        x.row(1, Told.INTS, 2);
        due("to another one", x.shift(0, 3, 1, 0, 2), 2);
        due("the one anew", x.row(0, Told.BYTES, 5), 1);
        due("the other stays", x.element(1, 0) * 10 + x.element(1, 1), 34);
        due("of unlike sorts now", x.shift(0, 0, 1, 0, 1), -12);
        due("ints again", x.row(0, Told.INTS, 5), 1);
        due("zeros come", x.shift(0, 0, 1, 1, 1), 1);
        due("zeros come", x.element(1, 0) * 10 + x.element(1, 1), 30);
    }

    private static void bodiesOnShelves() {
        says("What a SHELF holds, taken for a PLAYING of KIND k (0 .. 7), or under it: its KIND.");
        PractisedWrong x = Told.piece(1, 2);
        for (int kind = 0; kind < 6; kind++) {
            x.body(kind);
            x.keep(kind, kind);
        }
        // other calls, other bodies between: each shelf still has its own
        x.body(7);
        x.act(6, 3, 4);
        x.play(0, 0);
        x.row(1, 0, 2);
        x.keep(2, -1);
        due("SLOW's shelf has a row", x.taken(1, 1), -12);
        due("MARKED's has nothing", x.taken(2, 2), -11);
        due("PLAYING", x.taken(0, 0), 0);
        due("NIGHT under MARKED", x.taken(3, 2), 3);
        due("FINGER under SLOW", x.taken(4, 1), 4);
        due("LESSON under MARKED", x.taken(5, 2), 5);
        due("LESSON is no FINGER", x.taken(5, 4), -12);
        due("SHARP instead", x.keep(5, 6), 1);
        due("SHARP under FINGER", x.taken(5, 4), 7);
        due("SHARP under SLOW", x.taken(5, 1), 7);
        due("the same twice", x.keep(2, 6), 1);
        due("SHARP under PLAYING", x.taken(2, 0), 7);
    }

    private static void traceBetween() {
        says("THE TRACE: numbers of the bodies that ran in the latest act(), as they began");
        PractisedWrong x = Told.piece(20, 30);
        x.body(7);
        // plays(4) is 7; adds: 14 and fades(2), which is 2 less 5; less fades(1), which is 1 less 5; less 1
        due("tells", x.act(0, 3, 4), 14);
        int[] ran = {81, 2, 80, 10, 20, 1, 50, 11, 20, 1, 50, 11, 20, 1};
        Told.bytes(x, 0, 0, 20, 60);
        x.body(1);
        x.keep(1, 1);
        x.taken(1, 0);
        x.play(0, 0);
        x.plan(0, 0, 0);
        x.undo();
        x.image();
        x.back();
        x.body(8);
        for (int i = 0; i < ran.length; i++) {
            due("trace", x.trace(i), ran[i]);
        }
        due("ran", x.count(4), 14);
        due("a shorter one", x.act(1, 0, 4), 8);
        due("trace", x.trace(0) * 100 + x.trace(1), 2001);
        due("no more", x.trace(2), -1);
        says("0, and no TRACE then: no such PLAYING, ACT.");
        due("no such body", x.act(2, 0, 4), 0);
        due("ran", x.count(4), 0);
        due("trace", x.trace(0), -1);
        due("again", x.act(0, 0, 4), 7);
        due("ran", x.count(4), 2);
        due("no such act", x.act(0, 4, 4), 0);
        due("trace", x.trace(0), -1);
    }

    // ---- questions between questions

    private interface Question {
        long asked(PractisedWrong x);
    }

    private static PractisedWrong rich(boolean hasLaw) {
        PractisedWrong x = Told.piece(40, 50, 30, 70, 80, 20, 0, 0, 55, 55, 61, 60);
        x.mend(1, 2, 1);
        x.play(0, 1);
        x.play(4, 1);
        x.play(4, 0);
        Told.bytes(x, 0, 20, 20, 0, 60, 21, 21, 2, 60, 4, 25);
        Told.bytes(x, 1, 20, 1, 0, 0, 60, 9, 24, 1);
        Told.bytes(x, 2, 0, 0, 7);
        Told.bytes(x, 3, 2, 1, 60, 1, 2, 1);
        if (hasLaw) {
            Told.tell(x, "w>r?4+n;12-n*2-s*3");
        }
        return x;
    }

    private static List<Question> questions() {
        List<Question> q = new ArrayList<>();
        for (int i = 0; i < 6; i++) {
            int b = i;
            q.add(x -> x.plan(0, b, b % 2));
            q.add(x -> x.times(b, 1));
            q.add(x -> x.stays(b));
            q.add(x -> x.wrongFor(1, b, b % 2));
            q.add(x -> x.finger(b, 1));
            q.add(x -> x.hearing(100 * b + 5 - b, 7, b % 3));
            q.add(x -> x.came(0, b));
        }
        for (int i = 0; i < 5; i++) {
            int what = i;
            q.add(x -> x.lesson(0, what));
            q.add(x -> x.spread(what, 84, what - 1));
        }
        for (int i = 0; i < 3; i++) {
            int what = i;
            q.add(x -> x.with(7, what));
        }
        q.add(x -> x.times(4, 0));
        q.add(x -> x.stop(0));
        q.add(x -> x.whole(0));
        q.add(x -> x.whole(1));
        q.add(x -> x.judge(1));
        q.add(x -> x.judge(3));
        q.add(x -> x.fadesFor(1));
        q.add(x -> x.which(2));
        q.add(x -> x.all());
        q.add(x -> x.odds(5, 1));
        q.add(x -> x.drawn(9, 30, 1));
        q.add(x -> x.playing(4, 1, 1));
        return q;
    }

    private static void questionsBetween() {
        says("from now, in thought");
        List<Question> all = questions();
        for (int law = 0; law < 2; law++) {
            long[] alone = new long[all.size()];
            for (int i = 0; i < alone.length; i++) {
                alone[i] = all.get(i).asked(rich(law == 1));
            }
            for (int first = 0; first < alone.length; first++) {
                PractisedWrong x = rich(law == 1);
                for (int i = 0; i < alone.length; i++) {
                    due("question " + first, all.get(first).asked(x), alone[first]);
                    due("question " + i + " behind " + first, all.get(i).asked(x), alone[i]);
                }
            }
        }
    }

    /** What a plan tells is what practising it in deed gives: each byte of it, with questions between. */
    private static void deedsThoughtAhead() {
        says("RIGHT, WRONG of a BAR then; how the k-th of the PLAN came");
        for (int law = 0; law < 2; law++) {
            PractisedWrong x = rich(law == 1);
            int[] right = new int[6], wrong = new int[6];
            for (int b = 0; b < 6; b++) {
                right[b] = x.plan(0, b, 0);
                wrong[b] = x.plan(0, b, 1);
            }
            int lesson = x.lesson(0, 0), rightOnes = x.lesson(0, 3) + x.led(1), bytes = x.lesson(0, 4);
            int[] came = new int[bytes];
            for (int k = 0; k < bytes; k++) {
                came[k] = x.came(0, k);
            }
            due("bytes", bytes, 10);
            for (int k = 0; k < bytes; k++) {
                int code = (int) x.element(0, k);
                x.spread(k % 6, 53, -1);
                if (code == 60) {
                    x.night();
                    due("a night", came[k], -2);
                } else {
                    due("play", x.play(code % 20, code / 20), came[k]);
                }
                x.with(9, 0);
            }
            for (int b = 0; b < 6; b++) {
                due("right", x.of(b, 0), right[b]);
                due("wrong", x.of(b, 1), wrong[b]);
            }
            due("came right", x.led(1), rightOnes);
            due("lesson", x.thursday(), lesson);
        }
    }

    // ---- as many calls as an object is used for

    private static void manyPlayings() {
        says("An object is used for at most 512 calls after it has been made");
        PractisedWrong x = new PractisedWrong();
        x.bar(0, 0);
        int wrong = 0;
        for (int n = 0; n < CALLS - 4; n++) {
            due("play", x.play(0, 0), 0);
            wrong = Math.min(999, wrong + Math.max(1, 6 - n));
        }
        due("played", x.of(0, 10), CALLS - 4);
        due("wrong", x.of(0, 1), wrong);
        due("led", x.led(0), CALLS - 4);

        PractisedWrong y = new PractisedWrong();
        y.bar(999, 0);
        Told.tell(y, "n-450");
        for (int n = 0; n < 500; n++) {
            y.play(0, n % 2);
        }
        due("500 ahead", y.playing(0, 1, 1), 50);
        due("came right", y.of(0, 11), 500);
        due("night", y.night(), 1);
        // 999 less 166; 0 and 500 by 2
        due("right", y.of(0, 0), 833);
        due("wrong", y.of(0, 1), 250);
    }

    private static void manyNights() {
        says("A NIGHT: how many NIGHTS there were.");
        PractisedWrong x = Told.piece(999, 998);
        int right = 999;
        for (int n = 1; n <= CALLS - 3; n++) {
            due("night", x.night(), n);
            right -= right * 2 / 12;
        }
        due("right", x.of(0, 0), right);
        due("led", x.led(2), CALLS - 3);
    }

    private static void manyChanges() {
        says("40 at most are kept");
        PractisedWrong x = new PractisedWrong();
        int was = 20;
        for (int i = 0; i < 400; i++) {
            due("mend", x.mend(0, 3, i % 100), was);
            was = i % 100;
        }
        due("count", x.count(2), 40);
        for (int i = 0; i < 50; i++) {
            due("undo", x.undo(), i < 40 ? 39 - i : -5);
        }
        due("slowly", x.of(0, 3), 59);
        for (int i = 0; i < 50; i++) {
            due("redo", x.redo(), i < 40 ? 39 - i : -5);
        }
        due("slowly", x.of(0, 3), 99);

        PractisedWrong y = new PractisedWrong();
        y.bar(1, 2);
        y.mend(0, 0, 900);
        for (int i = 0; i < (CALLS - 3) / 2; i++) {
            due("undo", y.undo(), 0);
            due("redo", y.redo(), 0);
        }
        due("right", y.of(0, 0), 900);
    }

    private static void manyLetters() {
        says("BAD, FULL (120).");
        PractisedWrong x = new PractisedWrong();
        for (int i = 0; i < CALLS - 4; i++) {
            due("feed", x.feed('5'), i < 120 ? i + 1 : -3);
        }
        due("BAD ahead of FULL", x.feed(256), -1);
        due("count", x.count(1), 120);
        due("law", x.law(), -104);
        due("count", x.count(1), 0);
    }

    private static void manyLaws() {
        says("It gives how much a PLAYING adds (held within 0 .. 99)");
        PractisedWrong x = Told.piece(1, 0);
        String[] texts = {"7", "9*", "r+1", "-5", "n?4", "99+1", "x", "0;8"};
        int[] answers = {1, -102, 1, 1, 1, 1, -100, 1}, adds = {7, 7, 2, 0, 0, 99, 99, 0};
        for (int i = 0; i < 96; i++) {
            int at = i % texts.length;
            due("law " + texts[at], Told.tell(x, texts[at]), answers[at]);
            due("adds", x.playing(0, 0, 1), adds[at]);
        }
    }

    private static void manyBodies() {
        says("A PLAYING of a KIND (0 .. 7) is kept: its number. BAD, FULL.");
        PractisedWrong x = new PractisedWrong();
        for (int i = 0; i < 60; i++) {
            due("body", x.body(i % 8), i < 50 ? i : -3);
        }
        due("BAD ahead of FULL", x.body(8), -1);
        for (int i = 0; i < 200; i++) {
            int n = i % 50;
            // 1: x and its number; 3 more under SLOW; twice for HEARD
            int kind = n % 8;
            int want = 100 + n;
            if (kind == 1 || kind == 4 || kind == 7) {
                want += 3;
            } else if (kind == 6) {
                want *= 2;
            }
            due("plays", x.act(n, 0, 100), want);
            due("ran", x.count(4), want == 100 + n ? 1 : 2);
        }
        due("bodies", x.count(3), 50);
    }

    private static void manyImages() {
        says("It is laid back");
        PractisedWrong x = Told.lasting(10, 30);
        Told.tell(x, "1");
        for (int i = 0; i < 100; i++) {
            due("play", x.play(0, 0), 0);
            due("image", x.image(), i + 1);
            due("slowly it has 30 against 31 and more", x.play(0, 1), 0);
            due("back", x.back(), i + 1);
            due("wrong", x.of(0, 1), 31 + i);
        }
    }

    private static void manyRows() {
        says("A SHELF holds a ROW: 1.");
        PractisedWrong x = new PractisedWrong();
        for (int i = 0; i < 100; i++) {
            int n = 1 + i * 7 % 60;
            due("row", x.row(i % 6, i % 5, n), 1);
            due("0 at first", x.element(i % 6, n - 1), 0);
            due("put", x.put(i % 6, n - 1, 1), 1);
            due("put", x.put(i % 6, n, 1), -13);
            due("element", x.element(i % 6, n - 1), 1);
        }
    }

    private static void manyBars() {
        says("n of them; it ends where the row is missing, ends (within a two, too), one is not so, or BARS are FULL: those ahead came.");
        PractisedWrong x = new PractisedWrong();
        Told.row(x, 0, Told.SHORTS, 1, 2, 3, 4, 5, 1000, 7, 8, 9);
        int came = 0;
        for (int i = 0; i < 100; i++) {
            // from 0 two, from 2 one, from 4 none, from 6 one, from 8 none
            int there = new int[] {2, 1, 0, 1, 0}[i % 5];
            int want = Math.min(there, 12 - came);
            due("bars", x.bars(0, i % 5 * 2, 12), want);
            came += want;
            due("count", x.count(0), came);
            due("missing", x.bars(1, i, 12), 0);
            x.night();
        }
        due("full", x.count(0), 12);
    }

    private static void manyLessons() {
        says("A LESSON: how many come RIGHT.");
        PractisedWrong x = Told.lasting(1, 0, 0, 1);
        for (int i = 1; i <= 240; i++) {
            due("thursday", x.thursday(), i > 120 ? 2 : 1);
            if (i == 120) {
                x.mend(1, 0, 2);
            }
            due("lessons", x.led(3), i);
        }
        due("nothing is added", x.of(0, 0) + x.of(0, 10) + x.led(0), 1);
        due("the most", x.led(4), 2);
    }
}
