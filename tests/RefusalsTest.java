import java.util.ArrayList;
import java.util.List;

/**
 * "What is refused answers as told and changes nothing but STATUS": each refused call is made on one of two
 * objects brought about alike, and then all that can be asked of both is held against each other.
 */
public final class RefusalsTest extends Calls {
    private static final int MIN = Integer.MIN_VALUE;
    private static final int MAX = Integer.MAX_VALUE;

    private interface Making {
        SaddlerKnows make();
    }

    private interface Call {
        long on(SaddlerKnows x);
    }

    public static void main(String[] args) {
        newObject();
        tapes();
        acts();
        poorActs();
        fullActs();
        lateActs();
        noActs();
        questions();
        questionsChangeNothing();
        finish("refusals");
    }

    // ---- objects brought about ----

    /** Three persons, two of three saddles, four acts, an image, two seen, a law begun on the tape. */
    private static SaddlerKnows middle() {
        SaddlerKnows x = county("sh3k30;ps6b5t2;ps4b7t9;ps2b3t0;lr0u1f6;lr2u1f7;lr1u2f1");
        tell(x, "y:f+1", 1);
        x.weeks(2);
        x.image();
        x.weeks(1);
        x.off(1);
        x.seen(1, 1, 3, true);
        x.seen(2, 2, 40, false);
        feed(x, "y:s+");
        return x;
    }

    private static SaddlerKnows nothing() {
        return new SaddlerKnows();
    }

    private static SaddlerKnows fullTape() {
        SaddlerKnows x = middle();
        feed(x, " ".repeat(234) + "1");
        return x;
    }

    /** Four laws, ten seen, a whole county on the tape. */
    private static SaddlerKnows fullOfLaws() {
        SaddlerKnows x = county("p;pt0;p;l;lr2", "y:s");
        for (int law = 1; law < 4; law++) {
            tell(x, "y:f+" + law, 1);
        }
        for (int k = 0; k < 10; k++) {
            x.seen(1, 3, 20 + k, false);
        }
        x.weeks(2);
        feed(x, "y:1");
        return x;
    }

    /** No coins at all, and somebody galled. */
    private static SaddlerKnows poor() {
        SaddlerKnows x = county("sk2;p;pt0;p;lf9;lr2u0", "y:9");
        x.weeks(1);
        x.image();
        x.stitch(0, 5);
        return x;
    }

    /** A saddle in each place, and 999 coins. */
    private static SaddlerKnows full() {
        SaddlerKnows x = county("sk99;p;p;p;p;l;lu2;lu3;lr1u0;lr1u2;lr1u3;lr2u0;lr2u1", "y:0");
        for (int k = 0; k < 18; k++) {
            x.give(50);
        }
        x.image();
        return x;
    }

    private static SaddlerKnows late() {
        SaddlerKnows x = county("sh0;p;pt0;p;l;lr2u0", "y:w/60");
        for (int k = 0; k < 16; k++) {
            x.weeks(60);
        }
        x.image();
        x.weeks(9);
        return x;
    }

    // ---- all that can be asked ----

    private static List<Integer> everything(SaddlerKnows x) {
        List<Integer> all = new ArrayList<>();
        now(x, all);
        for (int k = 0; k < 3; k++) {
            all.add(x.fits(k, NONE));
            all.add(x.ask(k, 3));
        }
        all.add(x.fault(0));
        all.add(x.fault(1));
        all.add(x.undo());
        now(x, all);
        all.add(x.back());
        now(x, all);
        all.add(x.text(0));
        all.add(x.count(3));
        return all;
    }

    private static void now(SaddlerKnows x, List<Integer> all) {
        for (int what = 0; what <= 10; what++) {
            all.add(x.count(what));
        }
        all.add(x.rule(0));
        all.add(x.rule(1));
        for (int p = 0; p < x.count(0); p++) {
            for (int what = 0; what < 6; what++) {
                all.add(person(x, p, what));
            }
        }
        for (int k = 0; k < 8; k++) {
            for (int what = 0; what < 4; what++) {
                all.add(x.saddle(k, what));
            }
        }
        for (int i = 0; i < 4; i++) {
            for (int what = 0; what < 3; what++) {
                all.add(x.log(i, what));
            }
        }
    }

    private static void stays(String call, Making making, Call made, long answer, int status) {
        SaddlerKnows x = making.make();
        SaddlerKnows alike = making.make();
        due(call, made.on(x), answer);
        for (int what = 0; what < 5; what++) {
            due("status(" + what + ") behind " + call, x.status(what), alike.status(what) + (what == status ? 1 : 0));
        }
        List<Integer> got = everything(x);
        List<Integer> want = everything(alike);
        due("how much there is to ask behind " + call, got.size(), want.size());
        for (int k = 0; k < want.size() && k < got.size(); k++) {
            due("what is asked as number " + k + " behind " + call, got.get(k), want.get(k));
        }
    }

    private static void stays(String call, Making making, Call made, long answer) {
        stays(call, making, made, answer, NONE);
    }

    private static long of(boolean answer) {
        return answer ? 1 : 0;
    }

    // ---- refused ----

    private static void newObject() {
        says("refused with no COUNTY");
        Making m = RefusalsTest::nothing;
        stays("weeks(1)", m, x -> x.weeks(1), NONE, 0);
        stays("makes(0, 1, 5)", m, x -> x.makes(0, 1, 5), NONE, 0);
        stays("stitch(0, 5)", m, x -> x.stitch(0, 5), NONE, 0);
        stays("off(0)", m, x -> x.off(0), NONE, 0);
        stays("salve(0)", m, x -> x.salve(0), NONE, 0);
        stays("give(1)", m, x -> x.give(1), NONE, 0);
        stays("years(1, 1)", m, x -> x.years(1, 1), NONE);
        stays("undo()", m, SaddlerKnows::undo, NONE);
        stays("image()", m, SaddlerKnows::image, NONE);
        stays("back()", m, SaddlerKnows::back, NONE);
        stays("text(0)", m, x -> x.text(0), NONE);
        stays("text(1)", m, x -> x.text(1), NONE);
        stays("law(0)", m, x -> of(x.law(0)), 0);
        stays("rest(2)", m, x -> of(x.rest(2)), 0);
        stays("end(1)", m, x -> of(x.end(1)), 0);
        stays("seen(0, 1, 0, true)", m, x -> x.seen(0, 1, 0, true), NONE);
        stays("ring()", m, SaddlerKnows::ring, NONE);
        stays("seats(0)", m, x -> x.seats(0), NONE);
    }

    private static void tapes() {
        says("refused: the TAPE and its texts");
        Making m = RefusalsTest::fullTape;
        stays("feed of two to 239", m, x -> x.feed('1' << 24, 0, 0, 0, '1'), NONE);
        stays("feed of twenty to 239", m, x -> x.feed(-1, -1, -1, -1, -1), NONE);
        stays("end(240)", m, x -> of(x.end(240)), 0);
        due("feed of one to 239", fullTape().feed(0, 0, 0, 0, '1'), 240);
        m = RefusalsTest::middle;
        stays("end(5)", m, x -> of(x.end(5)), 0);
        stays("end(-1)", m, x -> of(x.end(-1)), 0);
        stays("end(MIN)", m, x -> of(x.end(MIN)), 0);
        stays("text(0)", m, x -> x.text(0), NONE);
        stays("text(1)", m, x -> x.text(1), NONE);
        stays("text(2)", m, x -> x.text(2), NONE);
        stays("text(-1)", m, x -> x.text(-1), NONE);
        m = RefusalsTest::fullOfLaws;
        stays("text(1) of a fifth law", m, x -> x.text(1), NONE);
        stays("seen: an eleventh", m, x -> x.seen(1, 1, 1, true), NONE);
        stays("law(4)", m, x -> of(x.law(4)), 0);
        stays("law(-2)", m, x -> of(x.law(-2)), 0);
    }

    private static void acts() {
        says("refused: ACTS");
        Making m = RefusalsTest::middle;
        for (int n : new int[] {0, 61, -1, MIN, MAX}) {
            stays("weeks(" + n + ")", m, x -> x.weeks(n), NONE, 1);
        }
        for (int n : new int[] {0, 51, -1, MIN, MAX}) {
            stays("give(" + n + ")", m, x -> x.give(n), NONE, 1);
        }
        for (int p : new int[] {3, -1, 6, MIN, MAX}) {
            stays("makes(" + p + ", 0, 5)", m, x -> x.makes(p, 0, 5), NONE, 0);
            stays("makes(0, " + p + ", 5)", m, x -> x.makes(0, p, 5), NONE, 0);
            stays("salve(" + p + ")", m, x -> x.salve(p), NONE, 0);
        }
        for (int fit : new int[] {10, -1, MIN, MAX}) {
            stays("makes(0, 2, " + fit + ")", m, x -> x.makes(0, 2, fit), NONE, 1);
            stays("stitch(0, " + fit + ")", m, x -> x.stitch(0, fit), NONE, 1);
        }
        stays("makes(2, 2, 5)", m, x -> x.makes(2, 2, 5), NONE, 1);
        stays("makes(0, 1, 5)", m, x -> x.makes(0, 1, 5), NONE, 2);
        for (int at : new int[] {1, 3, 7, 8, -1, MIN, MAX}) {
            stays("stitch(" + at + ", 5)", m, x -> x.stitch(at, 5), NONE, 0);
            stays("off(" + at + ")", m, x -> x.off(at), NONE, 0);
        }
        stays("stitch(0, 6)", m, x -> x.stitch(0, 6), NONE, 2);
        stays("salve(0)", m, x -> x.salve(0), NONE, 2);
    }

    private static void poorActs() {
        says("refused: ACTS with too few COINS");
        Making m = RefusalsTest::poor;
        due("rule(1)", poor().rule(1), 0);
        stays("makes(0, 2, 5)", m, x -> x.makes(0, 2, 5), NONE, 3);
        stays("stitch(0, 6)", m, x -> x.stitch(0, 6), NONE, 3);
        stays("stitch(0, 4)", m, x -> x.stitch(0, 4), NONE, 3);
        stays("salve(1)", m, x -> x.salve(1), NONE, 3);
    }

    private static void fullActs() {
        says("refused: ACTS with no place, with too many COINS");
        Making m = RefusalsTest::full;
        stays("makes(3, 0, 5)", m, x -> x.makes(3, 0, 5), NONE, 3);
        stays("makes(0, 1, 9)", m, x -> x.makes(0, 1, 9), NONE, 2);
        stays("give(1)", m, x -> x.give(1), NONE, 1);
        stays("give(50)", m, x -> x.give(50), NONE, 1);
    }

    private static void lateActs() {
        says("refused: ACTS beyond the last WEEK");
        Making m = RefusalsTest::late;
        stays("weeks(31)", m, x -> x.weeks(31), NONE, 4);
        stays("weeks(60)", m, x -> x.weeks(60), NONE, 4);
        stays("weeks(61)", m, x -> x.weeks(61), NONE, 1);
        stays("years(31, 1)", m, x -> x.years(31, 1), NONE);
        SaddlerKnows x = late();
        due("weeks(30)", x.weeks(30), 999);
        x = late();
        due("years(30, 1)", x.years(30, 1), 999);
    }

    private static void noActs() {
        says("refused: what is no ACT");
        Making m = RefusalsTest::middle;
        for (int n : new int[] {0, 61, -1, MIN, MAX}) {
            stays("years(" + n + ", 5)", m, x -> x.years(n, 5), NONE);
        }
        for (int v : new int[] {2, -1, 10, MIN, MAX}) {
            stays("rest(" + v + ")", m, x -> of(x.rest(v)), 0);
        }
        for (int law : new int[] {1, 4, -2, MIN, MAX}) {
            stays("law(" + law + ")", m, x -> of(x.law(law)), 0);
        }
        for (int n : new int[] {0, 10, -1, MIN, MAX}) {
            stays("seen(1, " + n + ", 5, true)", m, x -> x.seen(1, n, 5, true), NONE);
        }
        for (int v : new int[] {100, -1, MIN, MAX}) {
            stays("seen(1, 1, " + v + ", true)", m, x -> x.seen(1, 1, v, true), NONE);
        }
        for (int p : new int[] {3, -1, MIN, MAX}) {
            stays("seen(" + p + ", 1, 5, true)", m, x -> x.seen(p, 1, 5, true), NONE);
        }
        Making undone = () -> {
            SaddlerKnows x = county("sk7;p;p;l");
            x.weeks(2);
            x.undo();
            x.undo();
            return x;
        };
        stays("undo() of none", undone, SaddlerKnows::undo, NONE);
        stays("back() with no IMAGE", undone, SaddlerKnows::back, NONE);
    }

    private static void questions() {
        says("refused: questions, with far numbers");
        Making m = RefusalsTest::middle;
        for (int p : new int[] {3, -1, MIN, MAX}) {
            stays("person(" + p + ", 0)", m, x -> person(x, p, 0), NO_SUCH);
            stays("limit(" + p + ")", m, x -> x.limit(p), NONE);
            stays("pinch(" + p + ", 0, 5)", m, x -> x.pinch(p, 0, 5), NONE);
            stays("pinch(0, " + p + ", 5)", m, x -> x.pinch(0, p, 5), NONE);
            stays("throwing(" + p + ")", m, x -> x.throwing(p), NONE);
            stays("bears(" + p + ", 1, 0)", m, x -> x.bears(p, 1, 0), NONE);
            stays("chain(" + p + ", 0)", m, x -> x.chain(p, 0), NONE);
            stays("chain(0, " + p + ")", m, x -> x.chain(0, p), NONE);
            stays("fits(" + p + ", NONE)", m, x -> x.fits(p, NONE), NONE);
            stays("ask(" + p + ", 1)", m, x -> x.ask(p, 1), NONE);
            stays("waiting(" + p + ", 0, 1, 1, 0)", m, x -> x.waiting(p, 0, 1, 1, 0), HIDDEN);
            stays("waiting(0, " + p + ", 1, 1, 0)", m, x -> x.waiting(0, p, 1, 1, 0), HIDDEN);
            stays("rests(" + p + ", 0, NONE)", m, x -> x.rests(p, 0, NONE), NONE);
            stays("rests(0, " + p + ", NONE)", m, x -> x.rests(0, p, NONE), NONE);
            stays("odds(" + p + ", 1, 1)", m, x -> x.odds(p, 1, 1), NONE);
            stays("shares(" + p + ", 1)", m, x -> x.shares(p, 1), NONE);
        }
        for (int what : new int[] {-1, 14, MIN, MAX}) {
            stays("person(0, " + what + ")", m, x -> person(x, 0, what), NO_SUCH);
            stays("rule(" + what + ")", m, x -> x.rule(what), NONE);
            stays("saddle(0, " + what + ")", m, x -> x.saddle(0, what), NONE);
            stays("saddle(" + what + ", 0)", m, x -> x.saddle(what, 0), NONE);
            stays("status(" + what + ")", m, x -> x.status(what), NONE);
            stays("log(0, " + what + ")", m, x -> x.log(0, what), NONE);
            stays("log(" + what + ", 0)", m, x -> x.log(what, 0), NONE);
            stays("best(0, " + what + ")", m, x -> x.best(0, what), NONE);
            stays("best(" + what + ", 0)", m, x -> x.best(what, 0), NONE);
            stays("bears(1, 1, " + what + ")", m, x -> x.bears(1, 1, what), NONE);
            stays("seats(" + what + ")", m, x -> x.seats(what), NONE);
            stays("most(" + what + ")", m, x -> x.most(what), NONE);
            stays("count(" + what + ")", m, x -> x.count(what), HIDDEN);
            stays("fault(" + what + ")", m, x -> x.fault(what), -2);
            stays("pinch(0, 1, " + what + ")", m, x -> x.pinch(0, 1, what), NONE);
            stays("waiting(0, 1, " + what + ", 1, 0)", m, x -> x.waiting(0, 1, what, 1, 0), HIDDEN);
            stays("waiting(0, 1, 1, " + what + ", 0)", m, x -> x.waiting(0, 1, 1, what, 0), HIDDEN);
            stays("waiting(0, 1, 1, 1, " + what + ")", m, x -> x.waiting(0, 1, 1, 1, what), HIDDEN);
            stays("odds(1, " + what + ", 1)", m, x -> x.odds(1, what, 1), NONE);
            stays("ask(0, " + what + ")", m, x -> x.ask(0, what), NONE);
        }
        for (int n : new int[] {0, 31, MIN, MAX}) {
            stays("bears(1, " + n + ", 0)", m, x -> x.bears(1, n, 0), NONE);
        }
        for (int n : new int[] {-1, 101, MIN, MAX}) {
            stays("odds(1, 1, " + n + ")", m, x -> x.odds(1, 1, n), NONE);
        }
        for (int n : new int[] {-1, 1000, MIN, MAX}) {
            stays("shares(1, " + n + ")", m, x -> x.shares(1, n), NONE);
        }
        for (int i : new int[] {-2, 100, MIN, MAX}) {
            stays("fits(0, " + i + ")", m, x -> x.fits(0, i), NONE);
            stays("rests(0, 1, " + i + ")", m, x -> x.rests(0, 1, i), NONE);
        }
    }

    private static void questionsChangeNothing() {
        says("3. Apart, from as it is now: what is asked changes nothing");
        Making m = RefusalsTest::middle;
        stays("pinch(1, 0, 9)", m, x -> x.pinch(1, 0, 9), 5);
        stays("best(0, 0)", m, x -> x.best(0, 0), 7);
        stays("throwing(1)", m, x -> x.throwing(1), 1);
        stays("bears(1, 2, 0)", m, x -> x.bears(1, 2, 0), NONE);
        stays("bears(2, 30, 1)", m, x -> x.bears(2, 30, 1), NONE);
        stays("bears(2, 12, 1)", m, x -> x.bears(2, 12, 1), 3);
        stays("seats(0)", m, x -> x.seats(0), 120);
        stays("fits(0, NONE)", m, x -> x.fits(0, NONE), 9);
        stays("ask(0, 1)", m, x -> x.ask(0, 1), 5);
        stays("odds(1, 6, 50)", m, x -> x.odds(1, 6, 50), 687500000);
        stays("most(9)", m, x -> x.most(9), 2);
        stays("fault(0)", m, x -> x.fault(0), 0);
        stays("fault(1)", m, x -> x.fault(1), 4);
    }
}
