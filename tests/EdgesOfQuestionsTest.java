/** Each sentence of the document that names an edge of what is asked: the edge itself and the nearest one allowed. */
public final class EdgesOfQuestionsTest extends Calls {
    private static final int CERTAIN = 1000000000;

    public static void main(String[] args) {
        rules();
        persons();
        saddles();
        pinchByNone();
        pinching();
        bestFits();
        bestNow();
        throwsWithin();
        bearsBounds();
        bearsLeast();
        bearsAtMostTwo();
        bearsApart();
        above();
        ring();
        chain();
        seats();
        seatsNow();
        seenBounds();
        seenOrMore();
        seenAsTold();
        byTheLawThatHolds();
        fits();
        ask();
        waitingBounds();
        waiting();
        rests();
        oddsBounds();
        oddsIdle();
        oddsCut();
        shares();
        mostOfSeveral();
        mostOfNone();
        mostBits();
        counts();
        finish("edges of questions");
    }

    private static void weeks(SaddlerKnows x, int n) {
        for (int left = n; left > 0; left -= 60) {
            x.weeks(Math.min(60, left));
        }
    }

    // ---- what is there ----

    private static void rules() {
        says("6. NONE: no COUNTY, no such what");
        SaddlerKnows x = new SaddlerKnows();
        due("rule(0)", x.rule(0), NONE);
        due("rule(1)", x.rule(1), NONE);
        x = county("sh0k0;p;p");
        due("rule(0)", x.rule(0), 0);
        due("rule(1)", x.rule(1), 0);
        due("rule(2)", x.rule(2), NONE);
        due("rule(-1)", x.rule(-1), NONE);
        x = county("sh9k99;p;p");
        due("rule(0)", x.rule(0), 9);
        due("rule(1)", x.rule(1), 99);
    }

    private static void persons() {
        says("7. NoSuchElementException: no such ones");
        SaddlerKnows x = new SaddlerKnows();
        due("person(0, 0) of no county", person(x, 0, 0), NO_SUCH);
        x = county("ps0b0t0;ps9b9t9");
        due("person(2, 0)", person(x, 2, 0), NO_SUCH);
        due("person(-1, 0)", person(x, -1, 0), NO_SUCH);
        due("person(0, 6)", person(x, 0, 6), NO_SUCH);
        due("person(0, -1)", person(x, 0, -1), NO_SUCH);
        due("person(2, 6)", person(x, 2, 6), NO_SUCH);
        for (int what = 0; what < 3; what++) {
            due("person(0, " + what + ")", person(x, 0, what), 0);
            due("person(1, " + what + ")", person(x, 1, what), 9);
        }
        due("person(1, 5)", person(x, 1, 5), 0);
        x = county("p;p;p;p;p;p");
        due("person(5, 0)", person(x, 5, 0), 4);
        due("person(6, 0)", person(x, 6, 0), NO_SUCH);
        says("3. LOAD of a PERSON: PINCH of all that he bears together");
        x = county("p;p;p;p;p;p;l;lr2;lr3;lr4;lr5;lr1u0", "y:30");
        due("person(1, 4): five, not held within 30", person(x, 1, 4), 150);
        due("person(0, 4): one", person(x, 0, 4), 30);
        due("person(2, 4): he bears none", person(x, 2, 4), 0);
    }

    private static void saddles() {
        says("8. NONE: none there, no such what");
        SaddlerKnows x = county("p;p;p;p;l;lu2;lu3;lr1u0;lr1u2;lr1u3;lr2u0;lr2u1");
        due("saddle(7, 0)", x.saddle(7, 0), 2);
        due("saddle(8, 0)", x.saddle(8, 0), NONE);
        due("saddle(-1, 0)", x.saddle(-1, 0), NONE);
        due("saddle(0, 3)", x.saddle(0, 3), 2);
        due("saddle(0, 4)", x.saddle(0, 4), NONE);
        due("saddle(0, -1)", x.saddle(0, -1), NONE);
        x.off(7);
        for (int what = 0; what < 4; what++) {
            due("saddle(7, " + what + ") with none there", x.saddle(7, what), NONE);
        }
        due("saddle(0, 0) of no county", new SaddlerKnows().saddle(0, 0), NONE);
    }

    private static void pinchByNone() {
        says("2. none at first: FIT and BREADTH apart, and STRENGTH by 3, cut");
        int[] thirds = {0, 0, 0, 1, 1, 1, 2, 2, 2, 3};
        for (int strength = 0; strength < 10; strength++) {
            SaddlerKnows x = county("ps" + strength + ";pb4s9");
            due("pinch(0, 1, 4)", x.pinch(0, 1, 4), thirds[strength]);
            due("pinch(0, 1, 3)", x.pinch(0, 1, 3), 1 + thirds[strength]);
            due("pinch(0, 1, 5)", x.pinch(0, 1, 5), 1 + thirds[strength]);
            due("pinch(0, 1, 0)", x.pinch(0, 1, 0), 4 + thirds[strength]);
            due("pinch(0, 1, 9)", x.pinch(0, 1, 9), 5 + thirds[strength]);
        }
        SaddlerKnows x = county("ps0;pb0");
        due("pinch(0, 1, 9)", x.pinch(0, 1, 9), 9);
        x = county("ps0;pb9");
        due("pinch(0, 1, 0)", x.pinch(0, 1, 0), 9);
    }

    private static void pinching() {
        says("22. NONE: no such ones, alike, no such FIT");
        SaddlerKnows x = county("p;p;p;l");
        due("pinch(3, 0, 5)", x.pinch(3, 0, 5), NONE);
        due("pinch(0, 3, 5)", x.pinch(0, 3, 5), NONE);
        due("pinch(-1, 0, 5)", x.pinch(-1, 0, 5), NONE);
        due("pinch(0, -1, 5)", x.pinch(0, -1, 5), NONE);
        due("pinch(1, 1, 5)", x.pinch(1, 1, 5), NONE);
        due("pinch(0, 1, 10)", x.pinch(0, 1, 10), NONE);
        due("pinch(0, 1, -1)", x.pinch(0, 1, -1), NONE);
        due("pinch(0, 1, 9)", x.pinch(0, 1, 9), 6);
        due("pinch(0, 1, 0)", x.pinch(0, 1, 0), 5);
        due("pinch(2, 1, 4)", x.pinch(2, 1, 4), 1);
        due("pinch(0, 1, 0) of no county", new SaddlerKnows().pinch(0, 1, 0), NONE);
    }

    // ---- best, throws, bears ----

    private static void best(String law, int fit, int pinch) {
        SaddlerKnows x = county("p;p;l", law);
        due("best(0, 0) by " + law, x.best(0, 0), fit);
        due("best(0, 1) by " + law, x.best(0, 1), pinch);
    }

    private static void bestFits() {
        says("3. BEST: the FIT (0 .. 9) by which it PINCHES least (of several the lowest)");
        best("y:f", 0, 0);
        best("y:20-f", 9, 11);
        best("y:7", 0, 7);
        best("y:f=4|f=7?3;y:9", 4, 3);
        best("y:f=7|f=8?3;y:9", 7, 3);
        for (int fit = 0; fit <= 9; fit++) {
            best("y:f=" + fit + "?3;y:4", fit, 3);
            best("y:f=" + fit + "|f=9?3;y:4", fit, 3);
        }
        says("3. PINCHES, as held within 0 .. 30");
        best("y:39-f", 0, 30);
        best("y:38-f", 9, 29);
        best("y:5-f", 5, 0);
        best("y:0-f", 0, 0);
        says("23. NONE: none there, no such what");
        SaddlerKnows x = county("p;p;l");
        due("best(0, 2)", x.best(0, 2), NONE);
        due("best(0, -1)", x.best(0, -1), NONE);
        due("best(1, 0)", x.best(1, 0), NONE);
        due("best(-1, 0)", x.best(-1, 0), NONE);
        due("best(8, 1)", x.best(8, 1), NONE);
        due("best(0, 0)", x.best(0, 0), 4);
        due("best(0, 1)", x.best(0, 1), 1);
        x.off(0);
        due("best(0, 0) of one taken off", x.best(0, 0), NONE);
    }

    private static void bestNow() {
        says("3. BEST: now");
        SaddlerKnows x = county("p;pt0;lf5", "y:g=0&w=0?f;y:20-f");
        due("best(0, 0)", x.best(0, 0), 0);
        x.weeks(1);
        due("best(0, 0)", x.best(0, 0), 9);
        due("best(0, 1)", x.best(0, 1), 11);
        due("saddle(0, 2)", x.saddle(0, 2), 5);
    }

    private static void throwsWithin() {
        says("3. THROWS: in how many WEEKS (1 .. 99)");
        due("throwing(1) in one", county("p;pt0;l", "y:30").throwing(1), 1);
        due("throwing(1) in two", county("p;pt0;l", "y:29").throwing(1), 2);
        due("throwing(1) in three", county("p;pt0;l", "y:10").throwing(1), 3);
        due("throwing(1) in 98", county("p;pt0;l", "y:w=97?30;y:0").throwing(1), 98);
        due("throwing(1) in 99", county("p;pt0;l", "y:w=98?30;y:0").throwing(1), 99);
        says("24. NONE: not within 99, no such PERSON");
        SaddlerKnows x = county("p;pt0;l", "y:w=99?30;y:0");
        due("throwing(1) in 100", x.throwing(1), NONE);
        due("throwing(0): he bears none", x.throwing(0), NONE);
        due("throwing(2)", x.throwing(2), NONE);
        due("throwing(-1)", x.throwing(-1), NONE);
        due("throwing(0) of no county", new SaddlerKnows().throwing(0), NONE);
        x.weeks(1);
        due("throwing(1) a week later", x.throwing(1), 99);
        due("throwing(1): who never does", county("p;p;l", "y:0").throwing(1), NONE);
        says("3. WEEKS go on behind 999");
        x = county("p;pt0;p;l", "y:w=97?30;y:0");
        x.off(0);
        weeks(x, 999);
        x.makes(0, 1, 5);
        due("throwing(1): in the week 1097", x.throwing(1), 99);
        says("3. he THROWS first: as it is now");
        x = county("p;pt0;l", "y:9");
        due("throwing(1)", x.throwing(1), 4);
        x.weeks(3);
        due("throwing(1)", x.throwing(1), 1);
        x.salve(1);
        due("throwing(1)", x.throwing(1), 1);
        x.salve(1);
        due("throwing(1): 17 and 9 are below 30", x.throwing(1), 2);
    }

    private static void bearsBounds() {
        says("25. NONE: no such PERSON, out of bounds, no such what");
        SaddlerKnows x = county("sk0;p;pt0;lf5", "y:f");
        due("bears(1, 0, 0)", x.bears(1, 0, 0), NONE);
        due("bears(1, 31, 0)", x.bears(1, 31, 0), NONE);
        due("bears(1, -1, 1)", x.bears(1, -1, 1), NONE);
        due("bears(2, 1, 0)", x.bears(2, 1, 0), NONE);
        due("bears(-1, 1, 0)", x.bears(-1, 1, 0), NONE);
        due("bears(1, 1, 2)", x.bears(1, 1, 2), NONE);
        due("bears(1, 1, -1)", x.bears(1, 1, -1), NONE);
        due("bears(1, 1, 0)", x.bears(1, 1, 0), 0);
        due("bears(1, 30, 0)", x.bears(1, 30, 0), 5);
        due("bears(0, 1, 0) of no county", new SaddlerKnows().bears(0, 1, 0), NONE);
        says("3. bears none: 0, NONE");
        due("bears(0, 30, 0)", x.bears(0, 30, 0), 0);
        due("bears(0, 30, 1)", x.bears(0, 30, 1), NONE);
    }

    private static void bearsLeast() {
        says("3. the least COINS, so that he does not THROW within the next n WEEKS");
        // f a week, 30 is the limit; so that fits below 30 / n are borne
        int[] coins = {0, 0, 0, 0, 0, 1, 1, 2, 2, 3};
        SaddlerKnows x = county("sk0;p;pt0;lf5", "y:f");
        for (int n = 1; n <= 30; n++) {
            int least = n <= 10 ? coins[n - 1] : n <= 14 ? 3 : n <= 29 ? 4 : 5;
            due("bears(1, " + n + ", 0)", x.bears(1, n, 0), least);
            due("bears(1, " + n + ", 1)", x.bears(1, n, 1), 5 - least);
        }
        due("rule(1): none are there", x.rule(1), 0);
        says("3. he does not anyhow: 0, the FITS as they are");
        due("bears(1, 5, 0)", x.bears(1, 5, 0), 0);
        due("bears(1, 5, 1)", x.bears(1, 5, 1), 5);
        says("3. the lowest place first and highest");
        x = county("p;pt0;p;p;lr2f1;lr3u0f9;lr0f2;lr3f0", "y:0");
        due("bears(1, 30, 1)", x.bears(1, 30, 1), 120);
        x = county("p;pt0;p;lf0;lr2f7", "y:0");
        due("bears(1, 30, 1): 0 ahead is not told", x.bears(1, 30, 1), 7);
        says("3. of several with as few COINS the least number so told");
        x = county("p;pt0;p;lf5;lr2f5", "y:f=4|f=6?0;y:15");
        due("bears(1, 1, 0): one of them", x.bears(1, 1, 0), 1);
        due("bears(1, 1, 1): of 45, 54, 56, 65", x.bears(1, 1, 1), 45);
        due("bears(1, 2, 0): both", x.bears(1, 2, 0), 2);
        due("bears(1, 2, 1): of 44, 46, 64, 66", x.bears(1, 2, 1), 44);
        x = county("p;pt0;p;lf5;lr2f5", "y:f=6|f=7?0;y:15");
        due("bears(1, 1, 1): of 56, 65", x.bears(1, 1, 1), 56);
        x = county("p;pt0;p;lf2;lr2f6", "y:f=4|f=8|f=0?0;y:15");
        due("bears(1, 1, 0): one by 2", x.bears(1, 1, 0), 2);
        due("bears(1, 1, 1): of 06, 46, 24, 28", x.bears(1, 1, 1), 6);
        says("3. two cheaper than one");
        x = county("p;pt0;p;lf5;lr2f5", "y:f=6?14;y:f=9?12;y:16");
        due("bears(1, 1, 0): not one to 9", x.bears(1, 1, 0), 2);
        due("bears(1, 1, 1): 14 and 14", x.bears(1, 1, 1), 66);
    }

    private static void bearsAtMostTwo() {
        says("3. STITCHING at most two of the SADDLES on him now");
        SaddlerKnows x = county("p;pt0;p;p;lf1;lr2f1;lr3f1", "y:f=1?10;y:f=2?7;y:f=0?0;y:9");
        // 30 in all now; 27 by one to 2, 20 by one to 0, 10 by two to 0
        due("bears(1, 1, 0): one by 1", x.bears(1, 1, 0), 1);
        due("bears(1, 1, 1)", x.bears(1, 1, 1), 11);
        due("bears(1, 2, 0): two by 1", x.bears(1, 2, 0), 2);
        due("bears(1, 2, 1)", x.bears(1, 2, 1), 1);
        due("bears(1, 3, 0): three would be needed", x.bears(1, 3, 0), NONE);
        due("bears(1, 3, 1)", x.bears(1, 3, 1), NONE);
        x = county("p;pt0;p;p;lf1;lr2f1;lr3u0f1", "y:f=1?10;y:0");
        due("bears(1, 30, 0): two, the third is on another one", x.bears(1, 30, 0), 2);
        due("bears(1, 30, 1)", x.bears(1, 30, 1), 0);
        says("3. each to any FIT");
        x = county("p;pt0;p;lf0;lr2f9", "y:f=9&s=3?0;y:f=0&s=4?0;y:30");
        due("bears(1, 30, 0): by 9 one", x.bears(1, 30, 0), 9);
        due("bears(1, 30, 1)", x.bears(1, 30, 1), 0);
        x = county("ps3;pt0;p;lf0;lr2f9", "y:f=9&s=3?0;y:f=0&s=4?0;y:30");
        due("bears(1, 30, 0): by 9 both", x.bears(1, 30, 0), 18);
        due("bears(1, 30, 1)", x.bears(1, 30, 1), 90);
        says("3. by none: NONE, NONE");
        x = county("p;pt0;l", "y:30");
        due("bears(1, 1, 0)", x.bears(1, 1, 0), NONE);
        due("bears(1, 1, 1)", x.bears(1, 1, 1), NONE);
    }

    private static void bearsApart() {
        says("3. COINS do not matter, WEEKS go on behind 999");
        SaddlerKnows x = county("p;pt0;p;lf5", "y:w=0?f*6;y:0");
        x.off(0);
        weeks(x, 999);
        x.makes(0, 1, 5);
        due("bears(1, 1, 0)", x.bears(1, 1, 0), 0);
        due("bears(1, 2, 0): in the week 1000", x.bears(1, 2, 0), 1);
        due("bears(1, 2, 1)", x.bears(1, 2, 1), 4);
        due("odds(1, 1, 0)", x.odds(1, 1, 0), 0);
        due("odds(1, 2, 0): in the week 1000", x.odds(1, 2, 0), CERTAIN);
        due("count(5)", x.count(5), 999);
        due("saddle(0, 2)", x.saddle(0, 2), 5);
        due("most(11)", x.most(11), 0);
    }

    // ---- above, rings, chains ----

    private static void above() {
        says("3. ABOVE: PERSONS that he sits on, at once or through others");
        SaddlerKnows x = county("p;p;p;p;p;p;lr0u1;lr1u2;lr2u3;lr3u4;lr4u5");
        int[] above = {62, 60, 56, 48, 32, 0};
        for (int p = 0; p < 6; p++) {
            due("person(" + p + ", 5)", person(x, p, 5), above[p]);
        }
        due("most(12)", x.most(12), 0);
        says("3. ABOVE: himself, too, if by a RING");
        x.makes(5, 0, 5);
        for (int p = 0; p < 6; p++) {
            due("person(" + p + ", 5)", person(x, p, 5), 63);
        }
        due("most(12)", x.most(12), 63);
        x = county("p;p;p;p;l;lr1u0;lr2u0;lr1u3");
        due("person(0, 5)", person(x, 0, 5), 11);
        due("person(2, 5): who sits on a ring is not in it", person(x, 2, 5), 11);
        due("person(3, 5): who is sat on by a ring", person(x, 3, 5), 0);
        due("most(12)", x.most(12), 3);
    }

    private static void ring() {
        says("3. RING: the fewest SADDLES; 26. NONE: there is none, no COUNTY");
        due("ring() of no county", new SaddlerKnows().ring(), NONE);
        due("ring() of no saddles", county("p;p").ring(), NONE);
        due("ring() of one", county("p;p;l").ring(), NONE);
        due("ring() of two", county("p;p;l;lr1u0").ring(), 2);
        due("ring() of two ways to one", county("p;p;p;p;l;lu2;lr1u3;lr2u3").ring(), NONE);
        SaddlerKnows x = county("p;p;p;p;p;p;lr0u1;lr1u2;lr2u3;lr3u4;lr4u5;lr5u0");
        due("ring() of six", x.ring(), 6);
        x.makes(4, 0, 5);
        due("ring() of five", x.ring(), 5);
        x.makes(4, 3, 5);
        due("ring() of two", x.ring(), 2);
        due("most(13)", x.most(13), 1);
        x.off(7);
        due("ring() of five", x.ring(), 5);
        due("most(13)", x.most(13), 0);
        x.off(0);
        due("ring()", x.ring(), NONE);
    }

    private static void chain() {
        says("3. CHAIN: the fewest likewise (to himself: 0); 27. NONE: by none, no such PERSONS");
        SaddlerKnows x = county("p;p;p;p;p;p;lr0u1;lr1u2;lr2u3;lr3u4;lr4u5;lr0u3;lr2u1");
        due("chain(0, 0)", x.chain(0, 0), 0);
        due("chain(5, 5)", x.chain(5, 5), 0);
        due("chain(1, 1): not by the ring", x.chain(1, 1), 0);
        due("chain(0, 1)", x.chain(0, 1), 1);
        due("chain(0, 2)", x.chain(0, 2), 2);
        due("chain(0, 5): not through all", x.chain(0, 5), 3);
        due("chain(1, 5)", x.chain(1, 5), 4);
        due("chain(1, 0): by none", x.chain(1, 0), NONE);
        due("chain(5, 4)", x.chain(5, 4), NONE);
        x.off(5);
        due("chain(0, 5): through all", x.chain(0, 5), 5);
        due("chain(0, 6)", x.chain(0, 6), NONE);
        due("chain(6, 0)", x.chain(6, 0), NONE);
        due("chain(6, 6)", x.chain(6, 6), NONE);
        due("chain(0, -1)", x.chain(0, -1), NONE);
        due("chain(-1, -1)", x.chain(-1, -1), NONE);
        due("chain(0, 0) of no county", new SaddlerKnows().chain(0, 0), NONE);
    }

    // ---- seats ----

    private static void seats() {
        says("28. NONE: no COUNTY, no such what");
        due("seats(0)", new SaddlerKnows().seats(0), NONE);
        due("seats(1)", new SaddlerKnows().seats(1), NONE);
        SaddlerKnows x = county("p;p");
        due("seats(2)", x.seats(2), NONE);
        due("seats(-1)", x.seats(-1), NONE);
        says("3. everybody on another one, on each one just one; the first the highest");
        due("seats(0) of two", x.seats(0), 10);
        due("seats(1) of two", x.seats(1), 2);
        says("3. of several the least row");
        int[] rows = {10, 120, 1032, 10342, 103254};
        StringBuilder people = new StringBuilder("p");
        for (int row : rows) {
            people.append(";p");
            x = county(people.toString(), "y:0");
            due("seats(0) of " + x.count(0), x.seats(0), row);
            due("seats(1) of " + x.count(0), x.seats(1), 0);
        }
        says("3. by which PINCH of all is least together");
        x = county("ps0;ps1b1;ps2b2", "y:s=0&b=2?0;y:s=2&b=1?3;y:s=1&b=4?3;y:s=0&b=1?2;y:s=1&b=2?2;y:s=2&b=4?3;y:30");
        due("seats(1): 0 and 3 and 3, or 2 and 2 and 3", x.seats(1), 6);
        due("seats(0)", x.seats(0), 201);
        x = county("ps0;ps1b1;ps2b2", "y:s=0&b=2?0;y:s=2&b=1?3;y:s=1&b=4?4;y:s=0&b=1?2;y:s=1&b=2?2;y:s=2&b=4?3;y:30");
        due("seats(1): both are 7", x.seats(1), 7);
        due("seats(0): the least row", x.seats(0), 120);
        says("3. each in the FIT (0 .. 9) that PINCHES least");
        due("seats(1) by 9", county("p;p", "y:f=9?1;y:5").seats(1), 2);
        due("seats(1) by 0", county("p;p", "y:f=0?1;y:5").seats(1), 2);
        due("seats(1), held within 0", county("p;p;p", "y:0-f").seats(1), 0);
        due("seats(1), held within 30", county("p;p;p", "y:99-f").seats(1), 90);
    }

    private static void seatsNow() {
        says("3. SEATS: were that SADDLE there now");
        SaddlerKnows x = county("p;pt0;p;lf5", "y:w=0?g;y:g+1");
        due("seats(1)", x.seats(1), 0);
        x.weeks(1);
        due("seats(1): by the week", x.seats(1), 3);
        x.weeks(1);
        due("seats(1): by the gall", x.seats(1), 4);
        due("seats(0)", x.seats(0), 120);
        due("count(6): nothing done", x.count(6), 1);
    }

    // ---- seen, fits, ask ----

    private static void seenBounds() {
        says("29. NONE: no such PERSON, out of bounds");
        SaddlerKnows x = county("p;p;p");
        due("seen(3, 1, 0, true)", x.seen(3, 1, 0, true), NONE);
        due("seen(-1, 1, 0, true)", x.seen(-1, 1, 0, true), NONE);
        due("seen(0, 0, 0, true)", x.seen(0, 0, 0, true), NONE);
        due("seen(0, 10, 0, true)", x.seen(0, 10, 0, true), NONE);
        due("seen(0, 1, -1, true)", x.seen(0, 1, -1, true), NONE);
        due("seen(0, 1, 100, true)", x.seen(0, 1, 100, true), NONE);
        due("count(8)", x.count(8), 0);
        due("seen(0, 1, 0, true) of no county", new SaddlerKnows().seen(0, 1, 0, true), NONE);
        says("29. how many there are; 3. SEEN (10 at most)");
        int[][] seen = {{0, 1, 0}, {2, 1, 0}, {0, 9, 0}, {0, 1, 99}, {0, 1, 99}, {2, 9, 99}, {1, 5, 50}, {1, 5, 50}};
        for (int k = 0; k < seen.length; k++) {
            due("seen", x.seen(seen[k][0], seen[k][1], seen[k][2], true), k + 1);
        }
        due("seen: a ninth one", x.seen(0, 1, 0, false), 9);
        due("seen: a tenth one", x.seen(0, 1, 0, true), 10);
        says("29. NONE: there are ten");
        due("seen: an eleventh one", x.seen(0, 1, 0, true), NONE);
        due("count(8)", x.count(8), 10);
        due("count(10): no ACT", x.count(10), 0);
    }

    /** The fits (bits) that the first told saddle may have had. */
    private static int bits(SaddlerKnows x) {
        int bits = 0;
        int count = x.fits(0, NONE);
        for (int i = 0; i < count; i++) {
            bits |= 1 << x.fits(0, i);
        }
        return bits;
    }

    private static void seenOrMore() {
        says("3. SEEN: had a PERSON GALL of v or more behind n WEEKS, or less");
        for (int v = 0; v <= 11; v++) {
            SaddlerKnows x = county("p;pt0;l", "y:f");
            x.seen(1, 1, v, true);
            due("the fits with " + v + " or more", bits(x), 1023 >> v << v);
            x = county("p;pt0;l", "y:f");
            x.seen(1, 1, v, false);
            due("the fits with less than " + v, bits(x), (1 << Math.min(10, v)) - 1);
        }
        SaddlerKnows x = county("p;pt0;l", "y:f");
        x.seen(1, 1, 4, true);
        x.seen(1, 1, 5, false);
        due("the fits with 4", bits(x), 16);
        x.seen(0, 5, 0, true);
        due("who has no gall has 0 or more", bits(x), 16);
        x.seen(0, 5, 1, false);
        due("and less than 1", bits(x), 16);
        x.seen(0, 5, 1, true);
        due("but not 1 or more", bits(x), 0);
        says("3. SEEN behind n (1 .. 9) WEEKS");
        for (int n = 1; n <= 9; n++) {
            x = county("p;pt0;l", "y:w=" + (n - 1) + "?f;y:0");
            x.seen(1, n, 7, true);
            due("the fits with 7 behind " + n, bits(x), 896);
            x = county("p;pt0;l", "y:w=" + n + "?f;y:0");
            x.seen(1, n, 7, true);
            due("the fits with 7 behind " + n + ", a week too early", bits(x), 0);
        }
        x = county("p;pt0;l", "y:f");
        x.seen(1, 1, 99, true);
        due("the fits with 99", bits(x), 0);
        x = county("p;pt0;l", "y:f");
        x.seen(1, 9, 99, false);
        due("the fits with less than 99", bits(x), 1023);
    }

    private static void seenAsTold() {
        says("3. SEEN: as told (nothing done, WEEK 0); FITS: all else as told");
        SaddlerKnows x = county("sh1;p;pt0;p;lf5;lr2f3", "y:f");
        x.seen(1, 2, 10, false);
        due("the fits: 3 twice and less than 4", bits(x), 3);
        x.stitch(1, 9);
        x.weeks(3);
        x.off(0);
        due("the fits", bits(x), 3);
        x.off(1);
        x.weeks(60);
        due("the fits of a saddle that is gone", bits(x), 3);
        x.makes(2, 0, 9);
        due("the fits: what was made is not told", bits(x), 3);
        due("count(1)", x.count(1), 2);
        says("3. SEEN: he THROWS in these WEEKS, too");
        x = county("sh1;p;pt9;l", "y:f+4");
        // 12 is the limit; behind three weeks 6, 7, 5, 6, 7, 8, 9, 10, 4, 4 by the fits rising
        x.seen(1, 3, 12, false);
        x.seen(1, 2, 12, false);
        due("the fits: nobody ever has 12", bits(x), 1023);
        x.seen(1, 3, 7, true);
        due("the fits with 7 or more behind three", bits(x), 2 + 16 + 32 + 64 + 128);
    }

    private static void byTheLawThatHolds() {
        says("2. PINCH of a SADDLE: WORTH by the LAW that holds: FITS and ASK, when they are asked");
        SaddlerKnows x = county("ps0;pb9t0;l", "y:f");
        tell(x, "y:f*2", 1);
        x.seen(1, 1, 7, true);
        due("the fits by f: 7 .. 9", bits(x), 896);
        due("ask(0, 2) by f: 14, 16, 18", x.ask(0, 2), 15);
        x.law(1);
        due("the fits by twice f: 4 .. 9", bits(x), 1008);
        due("ask(0, 1) by twice f: 8, 10 .. 18", x.ask(0, 1), 13);
        x.law(NONE);
        due("the fits by none: 9 less f", bits(x), 7);
        due("ask(0, 2) by none: 14, 16, 18", x.ask(0, 2), 15);
        x.law(0);
        due("the fits by f once more", bits(x), 896);
        says("2. PINCH of a SADDLE: WORTH by the LAW that holds: what else is asked");
        x = county("ps0;pb9t0;lf9", "y:30");
        tell(x, "y:10-f/9*9", 1);
        int[][] want = {{30, 0, 60, 1, NONE, 1000000000}, {1, 9, 2, 30, 0, 0}, {0, 9, 1, NONE, 0, 0}};
        int[] law = {0, 1, NONE}; // by none: 9 less f for 0 on 1, and 1 for 1 on 0
        for (int k = 0; k < law.length; k++) {
            x.law(law[k]);
            due("person(1, 4)", person(x, 1, 4), want[k][0]);
            due("pinch(0, 1, 9)", x.pinch(0, 1, 9), want[k][0]);
            due("best(0, 0)", x.best(0, 0), want[k][1]);
            due("seats(1)", x.seats(1), want[k][2]);
            due("throwing(1)", x.throwing(1), want[k][3]);
            due("bears(1, 5, 0)", x.bears(1, 5, 0), want[k][4]);
            due("odds(1, 1, 0)", x.odds(1, 1, 0), want[k][5]);
        }
    }

    private static void fits() {
        says("30. FITS: how many (i NONE), the i-th (rising). NONE: no such one");
        SaddlerKnows x = county("p;pt0;p;l;lr2", "y:f=2|f=5|f=9?1;y:0");
        due("fits(0, NONE) with nothing seen", x.fits(0, NONE), 10);
        due("fits(0, 0)", x.fits(0, 0), 0);
        due("fits(0, 9)", x.fits(0, 9), 9);
        due("fits(0, 10)", x.fits(0, 10), NONE);
        x.seen(1, 1, 2, true);
        due("fits(0, NONE)", x.fits(0, NONE), 3);
        int[] fit = {2, 5, 9, NONE};
        for (int i = 0; i < fit.length; i++) {
            due("fits(0, " + i + ")", x.fits(0, i), fit[i]);
        }
        due("fits(0, -2)", x.fits(0, -2), NONE);
        due("fits(0, MAX)", x.fits(0, Integer.MAX_VALUE), NONE);
        due("fits(0, MIN)", x.fits(0, Integer.MIN_VALUE), NONE);
        x.seen(1, 1, 3, true);
        due("fits(0, NONE) of nothing", x.fits(0, NONE), 0);
        due("fits(0, 0) of nothing", x.fits(0, 0), NONE);
        says("30. NONE: no such told SADDLE");
        due("fits(1, NONE)", x.fits(1, NONE), 0);
        due("fits(2, NONE)", x.fits(2, NONE), NONE);
        due("fits(-1, NONE)", x.fits(-1, NONE), NONE);
        x.makes(2, 0, 5);
        due("fits(2, NONE): made, not told", x.fits(2, NONE), NONE);
        due("fits(0, NONE) with none told", county("p;p").fits(0, NONE), NONE);
        due("fits(0, NONE) of no county", new SaddlerKnows().fits(0, NONE), NONE);
    }

    private static void ask() {
        says("3. ASK: the v (0 .. 99) by which they are least apart in number (of several the least)");
        SaddlerKnows x = county("p;pt0;l", "y:f*3");
        due("ask(0, 1): 0, 3 .. 27, five below 13", x.ask(0, 1), 13);
        x.seen(1, 1, 3, true);
        due("ask(0, 1): 3, 6 .. 27, four below 13", x.ask(0, 1), 13);
        x.seen(1, 1, 6, true);
        due("ask(0, 1): 6, 9 .. 27, four below 16", x.ask(0, 1), 16);
        x.seen(1, 1, 10, false);
        due("ask(0, 1): 6 and 9", x.ask(0, 1), 7);
        x.seen(1, 1, 9, true);
        due("ask(0, 1): 9 alone, apart by one anyhow", x.ask(0, 1), 0);
        SaddlerKnows low = county("p;pt0;l", "y:f");
        low.seen(1, 1, 2, false);
        due("ask(0, 1): 0 and 1", low.ask(0, 1), 1);
        SaddlerKnows high = county("p;pt0;l", "y:f");
        high.seen(1, 1, 8, true);
        due("ask(0, 1): 8 and 9", high.ask(0, 1), 9);
        says("31. NONE: nothing fits");
        x.seen(1, 1, 10, true);
        due("ask(0, 1)", x.ask(0, 1), NONE);
        says("3. ASK: all alike");
        due("ask(0, 9)", county("p;pt0;l", "y:3").ask(0, 9), 0);
        due("ask(0, 1): one apart from nine", county("p;pt0;l", "y:f=4?29;y:28").ask(0, 1), 29);
        due("ask(0, 1): the same at the lower end", county("p;pt0;l", "y:f=4?0;y:1").ask(0, 1), 1);
        says("31. NONE: no such told SADDLE, out of bounds");
        x = county("p;pt0;p;l;lr2u0", "y:f");
        due("ask(0, 0)", x.ask(0, 0), NONE);
        due("ask(0, 10)", x.ask(0, 10), NONE);
        due("ask(2, 1)", x.ask(2, 1), NONE);
        due("ask(-1, 1)", x.ask(-1, 1), NONE);
        due("ask(0, 1): 0 .. 9", x.ask(0, 1), 5);
        due("ask(1, 1)", x.ask(1, 1), 5);
        x.makes(2, 1, 5);
        due("ask(2, 1): made, not told", x.ask(2, 1), NONE);
        due("ask(0, 1) of no county", new SaddlerKnows().ask(0, 1), NONE);
        says("3. ASK for n (1 .. 9): behind n WEEKS");
        for (int n = 1; n <= 9; n++) {
            x = county("p;pt0;l", "y:w=" + (n - 1) + "?f;y:0");
            due("ask(0, " + n + ")", x.ask(0, n), 5);
            x = county("p;pt0;l", "y:w=" + n + "?f;y:0");
            due("ask(0, " + n + ") a week too early", x.ask(0, n), 0);
        }
    }

    // ---- waiting, rests ----

    private static void waitingBounds() {
        says("32. HIDDEN: no such ones, alike, out of bounds");
        SaddlerKnows x = county("p;p;p");
        int[][] not = {{3, 0, 1, 1, 0}, {0, 3, 1, 1, 0}, {-1, 0, 1, 1, 0}, {0, -1, 1, 1, 0}, {1, 1, 1, 1, 0},
            {0, 1, 10, 1, 0}, {0, 1, -1, 1, 0}, {0, 1, 1, 10, 0}, {0, 1, 1, -1, 0}, {0, 1, 1, 1, 2}, {0, 1, 1, 1, -1}};
        for (int[] n : not) {
            due("waiting", x.waiting(n[0], n[1], n[2], n[3], n[4]), HIDDEN);
        }
        due("waiting(0, 1, 9, 9, 0)", x.waiting(0, 1, 9, 9, 0), -8);
        due("waiting(0, 1, 0, 0, 1)", x.waiting(0, 1, 0, 0, 1), 1);
        due("waiting(2, 0, 0, 9, 0)", x.waiting(2, 0, 0, 9, 0), 0);
        due("waiting(0, 2, 9, 0, 0)", x.waiting(0, 2, 9, 0, 0), 4);
        due("waiting(0, 1, 0, 0, 0) of no county", new SaddlerKnows().waiting(0, 1, 0, 0, 0), HIDDEN);
    }

    private static void waiting() {
        says("3. WAITING: if he waits longer");
        SaddlerKnows x = county("ps7t8;ps3t5");
        due("waiting(0, 1, 5, 4, 0): 3 less 4", x.waiting(0, 1, 5, 4, 0), -1);
        due("waiting(1, 0, 5, 4, 0): 7 less 4", x.waiting(1, 0, 5, 4, 0), 3);
        due("waiting(0, 1, 9, 0, 0): 3 less 0", x.waiting(0, 1, 9, 0, 0), 3);
        due("waiting(0, 1, 9, 8, 0): 3 less 8", x.waiting(0, 1, 9, 8, 0), -5);
        says("3. WAITING: if less long, 0 less his own WEEKS");
        due("waiting(0, 1, 4, 5, 0)", x.waiting(0, 1, 4, 5, 0), -4);
        due("waiting(0, 1, 0, 1, 0)", x.waiting(0, 1, 0, 1, 0), 0);
        due("waiting(0, 1, 8, 9, 0)", x.waiting(0, 1, 8, 9, 0), -8);
        says("3. WAITING: if as long, half his own TEMPER, cut, less the WEEKS");
        due("waiting(0, 1, 4, 4, 0): 4 less 4", x.waiting(0, 1, 4, 4, 0), 0);
        due("waiting(0, 1, 5, 5, 0): 4 less 5", x.waiting(0, 1, 5, 5, 0), -1);
        due("waiting(1, 0, 4, 4, 0): 2 less 4", x.waiting(1, 0, 4, 4, 0), -2);
        due("waiting(1, 0, 0, 0, 0)", x.waiting(1, 0, 0, 0, 0), 2);
        says("32. what the other has (1)");
        due("waiting(0, 1, 5, 4, 1)", x.waiting(0, 1, 5, 4, 1), -4);
        due("waiting(0, 1, 4, 5, 1)", x.waiting(0, 1, 4, 5, 1), 3);
        due("waiting(0, 1, 4, 4, 1)", x.waiting(0, 1, 4, 4, 1), -2);
    }

    private static void restsAre(String text, int... want) {
        SaddlerKnows x = county(text);
        due("rests(0, 1, NONE) of " + text, x.rests(0, 1, NONE), want.length);
        for (int i = 0; i < want.length; i++) {
            due("rests(0, 1, " + i + ") of " + text, x.rests(0, 1, i), want[i]);
        }
        due("rests(0, 1, " + want.length + ") of " + text, x.rests(0, 1, want.length), NONE);
    }

    private static void rests() {
        says("3. RESTS: by which neither has more by another of its own (rising)");
        // both as long, up to 4; or one not at all while the other waits 4 or longer
        restsAre("ps4t9;ps4t9", 0, 4, 5, 6, 7, 8, 9, 11, 22, 33, 40, 44, 50, 60, 70, 80, 90);
        // each has 0 less what the shorter one waits
        restsAre("ps0t0;ps0t0", 0, 1, 2, 3, 4, 5, 6, 7, 8, 9, 10, 20, 30, 40, 50, 60, 70, 80, 90);
        // as long as both wait 0 or 1 each has as much as by any other
        restsAre("ps0t2;ps0t2", 0, 11);
        // the other one has 1 by 0 and 0 if the first does not wait
        restsAre("ps0t0;ps0t2", 0, 10, 20, 30, 40, 50, 60, 70, 80, 90);
        // who waits longer has more than 0, unless the other one waits 9
        restsAre("ps9t0;ps9t0", 9, 90);
        says("33. NONE: no such one, no such PERSONS, alike");
        SaddlerKnows x = county("p;p;p");
        due("rests(0, 1, -2)", x.rests(0, 1, -2), NONE);
        due("rests(0, 1, 100)", x.rests(0, 1, 100), NONE);
        due("rests(0, 1, MIN)", x.rests(0, 1, Integer.MIN_VALUE), NONE);
        due("rests(0, 3, NONE)", x.rests(0, 3, NONE), NONE);
        due("rests(3, 0, NONE)", x.rests(3, 0, NONE), NONE);
        due("rests(0, -1, NONE)", x.rests(0, -1, NONE), NONE);
        due("rests(-1, 0, NONE)", x.rests(-1, 0, NONE), NONE);
        due("rests(2, 2, NONE)", x.rests(2, 2, NONE), NONE);
        due("rests(0, 1, NONE) of no county", new SaddlerKnows().rests(0, 1, NONE), NONE);
        due("rests(2, 1, NONE)", x.rests(2, 1, NONE) > 0, true);
    }

    // ---- odds, shares ----

    private static void oddsBounds() {
        says("34. NONE: no such PERSON, out of bounds");
        SaddlerKnows x = county("p;pt0;l", "y:10");
        due("odds(2, 1, 50)", x.odds(2, 1, 50), NONE);
        due("odds(-1, 1, 50)", x.odds(-1, 1, 50), NONE);
        due("odds(1, -1, 50)", x.odds(1, -1, 50), NONE);
        due("odds(1, 7, 50)", x.odds(1, 7, 50), NONE);
        due("odds(1, 1, -1)", x.odds(1, 1, -1), NONE);
        due("odds(1, 1, 101)", x.odds(1, 1, 101), NONE);
        due("odds(0, 1, 50) of no county", new SaddlerKnows().odds(0, 1, 50), NONE);
        says("3. ODDS for n (0 .. 6) WEEKS and a chance (0 .. 100)");
        due("odds(1, 0, 0): no week", x.odds(1, 0, 0), 0);
        due("odds(1, 2, 0): 20 are not 30", x.odds(1, 2, 0), 0);
        due("odds(1, 3, 0): 30", x.odds(1, 3, 0), CERTAIN);
        due("odds(1, 6, 0)", x.odds(1, 6, 0), CERTAIN);
        due("odds(1, 6, 100)", x.odds(1, 6, 100), 0);
        due("odds(1, 3, 99): of each part 99 hundredths, cut", x.odds(1, 3, 99), 1000);
        due("odds(1, 3, 1)", x.odds(1, 3, 1), 970299000);
        due("odds(0, 6, 0): he bears none", x.odds(0, 6, 0), 0);
    }

    private static void oddsIdle() {
        says("3. IDLE: no GALL more, he HEALS");
        // 10 a week to 30; an idle one takes 9
        SaddlerKnows x = county("sh9;p;pt0;l", "y:10");
        due("odds(1, 4, 50): three together, or the last three", x.odds(1, 4, 50), 62500000 * 3);
        says("3. IDLE: he HEALS (0 at least)");
        x = county("sh9;p;pt0;l", "y:w=0?5;y:w=1?0;y:15");
        due("odds(1, 4, 50): 5 healed to 0, not less", x.odds(1, 4, 50), 4 * 62500000);
        x = county("sh9;p;pt0;l", "y:29");
        due("odds(1, 2, 50): 0 stays 0, and 29 are not 30", x.odds(1, 2, 50), 250000000);
        x = county("sh9;p;pt0;l", "y:w=0?9;y:w=2?30;y:29");
        due("odds(1, 2, 50): 9 healed to 0", x.odds(1, 2, 50), 250000000);
        says("3. IDLE: does not THROW");
        x = county("sh0;p;pt9;p;p;p;l;lr2;lr3;lr4", "y:30");
        x.weeks(1);
        due("person(1, 3): above his limit of 12", person(x, 1, 3), 49);
        due("odds(1, 6, 0): he bears none", x.odds(1, 6, 0), 0);
        due("throwing(1): he bears none", x.throwing(1), NONE);
        due("most(9): he bears none", x.most(9), 0);
        due("bears(1, 30, 0): he bears none", x.bears(1, 30, 0), 0);
        due("bears(1, 30, 1): he bears none", x.bears(1, 30, 1), NONE);
        x.makes(0, 1, 5);
        tell(x, "y:0", 1);
        x.law(1);
        due("throwing(1)", x.throwing(1), 1);
        due("most(9)", x.most(9), 2);
        due("bears(1, 1, 0): by none", x.bears(1, 1, 0), NONE);
        due("odds(1, 1, 30)", x.odds(1, 1, 30), 700000000);
        due("odds(1, 2, 30)", x.odds(1, 2, 30), 910000000);
        due("odds(1, 1, 100)", x.odds(1, 1, 100), 0);
        says("3. IDLE: the SADDLES stay");
        x = county("sh9;p;pt9;l", "y:12");
        due("odds(1, 2, 50): the second week, too", x.odds(1, 2, 50), 750000000);
        due("count(6)", x.count(6), 1);
        says("3. each WEEK by itself: the week goes on in an idle one");
        x = county("sh0;p;pt9;l", "y:w=1?12;y:0");
        due("odds(1, 2, 50)", x.odds(1, 2, 50), 500000000);
        due("odds(1, 1, 50)", x.odds(1, 1, 50), 0);
        due("odds(1, 6, 50)", x.odds(1, 6, 50), 500000000);
    }

    private static void oddsCut() {
        says("3. of each part chance 100ths, cut, IDLE");
        SaddlerKnows x = county("sh9;p;pt9;l", "y:12");
        due("odds(1, 1, 1)", x.odds(1, 1, 1), 990000000);
        due("odds(1, 4, 1): one hundredth four times is 10", x.odds(1, 4, 1), CERTAIN - 10);
        due("odds(1, 5, 1): of 10 none is cut", x.odds(1, 5, 1), CERTAIN);
        due("odds(1, 6, 7): of 1680 are 117", x.odds(1, 6, 7), CERTAIN - 117);
        due("odds(1, 5, 7)", x.odds(1, 5, 7), CERTAIN - 1680);
    }

    private static void shares() {
        says("3. SHARES of c (0 .. 999); 35. NONE: no such PERSON, out of bounds");
        SaddlerKnows x = county("p;pt0;pt0;l;lr1u2;lr2u1f6;lr0u2f6", "y:f");
        due("shares(1, 999) of none", x.shares(1, 999), 0);
        x.weeks(1);
        due("shares(1, 999): 11 of 22", x.shares(1, 999), 499);
        due("shares(0, 999): he has none", x.shares(0, 999), 0);
        due("shares(1, 1): cut", x.shares(1, 1), 0);
        due("shares(1, 2)", x.shares(1, 2), 1);
        due("shares(1, 0)", x.shares(1, 0), 0);
        due("shares(1, -1)", x.shares(1, -1), NONE);
        due("shares(1, 1000)", x.shares(1, 1000), NONE);
        due("shares(3, 1)", x.shares(3, 1), NONE);
        due("shares(-1, 1)", x.shares(-1, 1), NONE);
        due("shares(0, 1) of no county", new SaddlerKnows().shares(0, 1), NONE);
        for (int gall : new int[] {1, 9}) {
            x = county("p;pt0;l", "y:" + gall);
            x.weeks(1);
            due("shares(1, 999): all of " + gall, x.shares(1, 999), 999);
        }
    }

    // ---- most ----

    private static void mostOfSeveral() {
        says("3. of several the lowest, all");
        SaddlerKnows x = county("p;p;p", "y:9");
        for (int what = 0; what < 6; what++) {
            due("most(" + what + ") of all alike", x.most(what), 0);
        }
        x = county("ps1b1t1;ps2b2t2;ps2b2t2;lr0u1;lr1u2;lr2u1;lr2u0f9;lr1u0f9", "y:f=9?1;y:b=2&s=1?2;y:b=2&s=2?3;y:0");
        // on 0: 1 and 1, on 1: 2 and 3, on 2: 3; 1 and 2 sit in two each
        int[] most = {0, 1, 1, 1, 1, 1, 1};
        for (int what = 0; what < most.length; what++) {
            due("most(" + what + ")", x.most(what), most[what]);
        }
        x.weeks(1);
        due("most(0): 2, 5, 3", x.most(0), 1);
        x = county("p;pt0;pt0;lu1;lu2", "y:9");
        x.weeks(1);
        due("most(0): 9 and 9", x.most(0), 1);
        due("most(1): 9 and 9", x.most(1), 1);
        due("most(6): 9 and 9", x.most(6), 0);
        says("36. STRONGEST (3), BROADEST (4), HOTTEST (5)");
        x = county("ps5b1t1;ps4b9t2;ps1b2t3;ps1b2t2");
        due("most(3)", x.most(3), 0);
        due("most(4)", x.most(4), 1);
        due("most(5)", x.most(5), 2);
        x = county("ps5b6t5;ps6b5t4;ps1b2t3;ps0b5t7");
        due("most(3)", x.most(3), 1);
        due("most(4)", x.most(4), 0);
        due("most(5)", x.most(5), 3);
        says("36. the highest of each, also if it is the last one's");
        x = county("ps1b1t1;ps2b2t2;ps3b3t3;lr2u1f1;lr2u0f2;lr1u0f3", "y:f");
        int[] last = {0, 0, 2, 2, 2, 2, 2};
        for (int what = 0; what < last.length; what++) {
            due("most(" + what + ")", x.most(what), last[what]);
        }
    }

    private static void mostOfNone() {
        says("36. TIGHTEST (6; NONE: there is none)");
        SaddlerKnows x = county("p;p;lr1u0", "y:0");
        due("most(6) of one that pinches nothing", x.most(6), 0);
        x.off(0);
        due("most(6)", x.most(6), NONE);
        due("most(2): LEADER with no saddles", x.most(2), 0);
        due("most(10)", x.most(10), 0);
        x = county("p;p;p;p;l;lu2;lu3;lr1u0;lr1u2;lr1u3;lr2u0;lr2u1f6", "y:f");
        due("most(6): the last place", x.most(6), 7);
        due("most(10)", x.most(10), 255);
        says("36. NONE: no COUNTY, no such what");
        due("most(14)", x.most(14), NONE);
        due("most(-1)", x.most(-1), NONE);
        due("most(13)", x.most(13), 3);
        x = new SaddlerKnows();
        for (int what = -1; what <= 14; what++) {
            due("most(" + what + ") of no county", x.most(what), NONE);
        }
    }

    private static void mostBits() {
        says("3. FREE: PERSONS who bear none; TOP: PERSONS who bear none and sit in one");
        SaddlerKnows x = county("p;p;p;p;p;p");
        due("most(7): all", x.most(7), 63);
        due("most(8)", x.most(8), 0);
        x = county("p;p;p;p;lr0u1;lr3u2;lr1u2");
        due("most(7)", x.most(7), 9);
        due("most(8)", x.most(8), 9);
        x.makes(2, 0, 5);
        due("most(7)", x.most(7), 8);
        due("most(8)", x.most(8), 8);
        x.off(1);
        due("most(8): 3 sits in none any more", x.most(8), 0);
        x = county("p;p;l;lr1u0");
        due("most(7): nobody", x.most(7), 0);
        says("3. THROWING: who will THROW in the next WEEK");
        x = county("pt9;pt9;pt9;lr0u1;lr0u2;lr1u2", "y:b=4&w=0?11;y:6");
        due("most(9): 11 are not 12, 22 are", x.most(9), 4);
        x.weeks(1);
        due("log(0, 0)", x.log(0, 0), 4);
        due("most(9): 11 and 6", x.most(9), 2);
        x.weeks(1);
        due("most(9): nobody bears any", x.most(9), 0);
        x = county("pt9;pt9;pt9;lr0u1;lr1u0;lr1u2", "y:12");
        due("most(9): all", x.most(9), 7);
        x.off(2);
        due("most(9): 0 and 1", x.most(9), 3);
        x.off(0);
        due("most(9): 0 alone", x.most(9), 1);
        says("3. IN RINGS: ABOVE themselves. SIDES: how many pairs sit on one another");
        x = county("p;p;p;p;p;p;lr0u1;lr1u0;lr1u2;lr2u1;lr3u4;lr4u5;lr5u3");
        due("most(12)", x.most(12), 63);
        due("most(13): a ring of three is none", x.most(13), 2);
        x.off(4);
        due("most(12)", x.most(12), 7);
        x.off(0);
        due("most(12)", x.most(12), 6);
        due("most(13)", x.most(13), 1);
        says("3. ALL: GALL of all together");
        x = county("p;pt0;pt0;lu1;lu2", "y:9");
        due("most(11)", x.most(11), 0);
        x.weeks(3);
        due("most(11)", x.most(11), 54);
    }

    private static void counts() {
        says("39. HIDDEN for others");
        SaddlerKnows x = county("p;p;p;l;lu2", "y:1");
        due("count(-1)", x.count(-1), HIDDEN);
        due("count(11)", x.count(11), HIDDEN);
        due("count(MAX)", x.count(Integer.MAX_VALUE), HIDDEN);
        says("39. count");
        feed(x, "ab");
        x.weeks(4);
        x.makes(2, 0, 0);
        x.rest(3);
        x.seen(0, 1, 1, true);
        int[] counts = {3, 2, 1, 2, 0, 4, 3, 3, 1, 4, 5};
        for (int what = 0; what < counts.length; what++) {
            due("count(" + what + ")", x.count(what), counts[what]);
        }
        says("39. what the counts end at");
        weeks(x, 995);
        due("count(5)", x.count(5), 999);
        due("count(9)", x.count(9), 60);
        due("count(10)", x.count(10), 40);
    }
}
