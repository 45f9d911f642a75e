import java.math.BigInteger;

/** Each sentence of the document that names an edge of what is done: the edge itself and the nearest one allowed. */
public final class EdgesOfWeeksTest extends Calls {
    /** Eight saddles among four persons: 0 on 1, 2, 3; 1 on 0, 2, 3; 2 on 0, 1. */
    private static final String EIGHT = ";p;p;p;p;l;lu2;lu3;lr1u0;lr1u2;lr1u3;lr2u0;lr2u1";

    public static void main(String[] args) {
        gallAtFirst();
        gallHighest();
        gallHeals();
        limits();
        throwing();
        gallAsTheWeekBegan();
        weekOfTheLaw();
        coinsOfWeeks();
        lastWeek();
        howManyWeeks();
        logOfSixty();
        making();
        makingPlaces();
        stitching();
        takingOff();
        salving();
        giving();
        fortyActs();
        undoneLog();
        statusCounts();
        statusFirst();
        statusStays();
        resting();
        yearsBounds();
        yearsSaddles();
        yearsOff();
        yearsGoRound();
        yearsAct();
        images();
        backs();
        imageOfThisCounty();
        imageLog();
        finish("edges of weeks");
    }

    private static void weeks(SaddlerKnows x, int n) {
        for (int left = n; left > 0; left -= 60) {
            x.weeks(Math.min(60, left));
        }
    }

    /** A county in which 1, of this temper, has this gall (at most 29) behind a week, and bears one saddle. */
    private static SaddlerKnows galled(String rules, int temper, int gall) {
        SaddlerKnows x = county(rules + "p;pt" + temper + ";l", "y:" + gall);
        x.weeks(1);
        return x;
    }

    // ---- galls ----

    private static void gallAtFirst() {
        says("2. GALL of a PERSON: 0 at first");
        SaddlerKnows x = county("p;p;p;l");
        for (int p = 0; p < 3; p++) {
            due("person(" + p + ", 3)", person(x, p, 3), 0);
        }
        due("most(11)", x.most(11), 0);
    }

    private static void gallHighest() {
        says("2. GALL: 99 at most");
        int[] pinched = {96, 97, 98, 99, 100, 101, 102};
        int[] halved = {48, 48, 49, 49, 49, 49, 49};
        for (int k = 0; k < pinched.length; k++) {
            int left = pinched[k] - 84 - 9;
            SaddlerKnows x = county("p;pt0;p;p;p;lf9;lr2f0;lr3f0;lr4f" + left, "y:f+21");
            due("person(1, 4)", person(x, 1, 4), pinched[k]);
            x.weeks(1);
            due("person(1, 3): half of " + pinched[k] + ", 99 at most", person(x, 1, 3), halved[k]);
        }
    }

    private static void gallHeals() {
        says("2. who bears none HEALS (0 at least)");
        int[][] healed = {{8, 0}, {9, 0}, {10, 1}};
        for (int[] gall : healed) {
            SaddlerKnows x = galled("sh9;", 0, gall[0]);
            x.off(0);
            x.weeks(1);
            due("person(1, 3) of " + gall[0], person(x, 1, 3), gall[1]);
        }
        SaddlerKnows x = galled("sh0;", 0, 7);
        x.off(0);
        x.weeks(1);
        due("person(1, 3) with none healed", person(x, 1, 3), 7);
        x = galled("sh9;", 0, 7);
        x.weeks(1);
        due("person(1, 3): who bears one does not heal", person(x, 1, 3), 14);
        x = county("p;p;p;l", "y:0");
        x.weeks(1);
        due("person(0, 3): 0 stays 0", person(x, 0, 3), 0);
        x = galled("sh3;", 0, 9);
        tell(x, "y:0", 1);
        x.law(1);
        x.weeks(1);
        due("person(1, 3): nor who bears one that pinches nothing", person(x, 1, 3), 9);
    }

    private static void limits() {
        says("2. LIMIT of a PERSON: 30 less twice his TEMPER");
        SaddlerKnows x = county("pt0;pt9;pt1;p");
        int[] limit = {30, 12, 28, 24};
        for (int p = 0; p < 4; p++) {
            due("limit(" + p + ")", x.limit(p), limit[p]);
        }
        says("21. NONE: no such PERSON");
        due("limit(4)", x.limit(4), NONE);
        due("limit(-1)", x.limit(-1), NONE);
        due("limit(0) of no county", new SaddlerKnows().limit(0), NONE);
    }

    private static void throwing() {
        says("2. who bears any and has GALL of LIMIT or more then THROWS: his GALL is half, cut");
        for (int temper = 0; temper < 10; temper++) {
            int limit = 30 - 2 * temper;
            for (int gall = limit - 1; gall <= limit + 1 && gall <= 30; gall++) {
                SaddlerKnows x = galled("", temper, gall);
                boolean throwsAll = gall >= limit;
                due("person(1, 3) of " + gall, person(x, 1, 3), throwsAll ? gall / 2 : gall);
                due("count(6) of " + gall, x.count(6), throwsAll ? 0 : 1);
                due("log(0, 0) of " + gall, x.log(0, 0), throwsAll ? 2 : 0);
            }
        }
        says("2. who bears none does not THROW");
        SaddlerKnows x = county("p;pt9;p;p;p;l;lr2;lr3;lr4", "y:30");
        x.weeks(1);
        due("person(1, 3): above his limit still", person(x, 1, 3), 49);
        due("throwing(1)", x.throwing(1), NONE);
        x.weeks(1);
        due("log(0, 0)", x.log(0, 0), 0);
        due("person(1, 3): he heals", person(x, 1, 3), 47);
        x.makes(0, 1, 5);
        tell(x, "y:0", 1);
        x.law(1);
        x.weeks(1);
        due("log(0, 0): who bears any again throws", x.log(0, 0), 2);
        due("person(1, 3)", person(x, 1, 3), 23);
        says("2. all SADDLES on him are gone");
        x = county("p;pt9;p;p;l;lr2u1;lr3u1;lr1u0;lr2u0", "y:b=4&t=9?4;y:0");
        x.weeks(1);
        due("most(10): those on 0 stay", x.most(10), 24);
        says("2. two THROW in one WEEK");
        x = county("pt9;pt8;p;l;lr1u0;lr2u0;lr0u2", "y:t=9?6;y:t=8?14;y:1");
        x.weeks(1);
        due("log(0, 0)", x.log(0, 0), 3);
        due("log(0, 1): 6 and 7 and 1", x.log(0, 1), 14);
        due("log(0, 2)", x.log(0, 2), 1);
    }

    private static void gallAsTheWeekBegan() {
        says("2. each by his GALL as the WEEK began");
        SaddlerKnows x = county("p;pt0;p;l;lr2", "y:g=0?7;y:g=14?1;y:30");
        x.weeks(1);
        due("person(1, 3): 7 twice", person(x, 1, 3), 14);
        x.weeks(1);
        due("person(1, 3): 1 twice", person(x, 1, 3), 16);
    }

    private static void weekOfTheLaw() {
        says("2. w the WEEK modulo 100");
        SaddlerKnows x = county("p;pt0;l", "y:w=99?11;y:w=0?12;y:w=1?13;y:w>99?14;y:0");
        x.off(0);
        int[][] pinch = {{0, 12}, {1, 13}, {99, 11}, {100, 12}, {101, 13}, {199, 11}, {900, 12}, {999, 11}};
        int week = 0;
        for (int[] then : pinch) {
            weeks(x, then[0] - week);
            week = then[0];
            due("count(5)", x.count(5), week);
            due("pinch(0, 1, 0) in week " + week, x.pinch(0, 1, 0), then[1]);
        }
        x = county("p;pt0;l", "y:w=0?12;y:0");
        x.weeks(1);
        due("person(1, 3): the week as it began", person(x, 1, 3), 12);
    }

    // ---- weeks ----

    private static void coinsOfWeeks() {
        says("2. COINS one more for each SADDLE there is then (999 at most)");
        int[][] coins = {{996, 998}, {997, 999}, {998, 999}, {999, 999}};
        for (int[] then : coins) {
            SaddlerKnows x = county("sk" + then[0] % 50 + ";p;p;l;lr1u0", "y:0");
            for (int k = then[0] / 50; k > 0; k--) {
                x.give(50);
            }
            due("rule(1)", x.rule(1), then[0]);
            x.weeks(1);
            due("rule(1) behind a week with two", x.rule(1), then[1]);
        }
        SaddlerKnows x = county("sk5;p;p");
        x.weeks(1);
        due("rule(1) with none", x.rule(1), 5);
        x = county("sk0" + EIGHT, "y:0");
        x.weeks(1);
        due("rule(1) with eight", x.rule(1), 8);
        x = county("sk5;p;pt9;l;lr1u0", "y:t=9?12;y:0");
        x.weeks(1);
        due("rule(1): what was thrown brings none", x.rule(1), 6);
    }

    private static void lastWeek() {
        says("2. the WEEK (0 at first; 999 at most: none goes by then)");
        SaddlerKnows x = county("p;p;l", "y:0");
        due("count(5)", x.count(5), 0);
        weeks(x, 939);
        due("count(5)", x.count(5), 939);
        says("10. beyond 999 (4)");
        due("weeks(60) to 999", x.weeks(60), 999);
        due("status(4)", x.status(4), 0);
        int coins = x.rule(1);
        due("weeks(1)", x.weeks(1), NONE);
        due("status(4)", x.status(4), 1);
        due("count(5)", x.count(5), 999);
        due("rule(1)", x.rule(1), coins);
        due("weeks(60)", x.weeks(60), NONE);
        due("status(4)", x.status(4), 2);
        x.undo();
        due("weeks(2) from 998", x.weeks(2), NONE);
        due("count(5): none of them", x.count(5), 998);
        due("weeks(1) from 998", x.weeks(1), 999);
        x.undo();
        x.undo();
        due("weeks(3) from 997", x.weeks(3), NONE);
        due("weeks(2) from 997", x.weeks(2), 999);
        says("10. of several the first: out of bounds (1) ahead of beyond 999 (4)");
        due("weeks(61)", x.weeks(61), NONE);
        due("status(1)", x.status(1), 1);
        due("status(4)", x.status(4), 4);
        says("17. years beyond 999");
        due("years(1, 5)", x.years(1, 5), NONE);
        x.undo();
        due("years(2, 5) from 998", x.years(2, 5), NONE);
        due("count(5)", x.count(5), 998);
        due("years(1, 5) from 998", x.years(1, 5), 999);
        due("status(4)", x.status(4), 4);
        says("2. what is done by hand goes on in WEEK 999");
        x = county("p;pt0;p;l");
        x.off(0);
        weeks(x, 999);
        due("makes(0, 1, 7)", x.makes(0, 1, 7), 0);
        due("stitch(0, 6)", x.stitch(0, 6), 7);
        due("give(1)", x.give(1), 17);
        due("off(0)", x.off(0), 0);
        due("undo()", x.undo(), 39);
        due("count(5)", x.count(5), 999);
    }

    private static void howManyWeeks() {
        says("10. WEEKS (1 .. 60): out of bounds (1)");
        SaddlerKnows x = county("p;p");
        int[] not = {0, 61, -1, 999, Integer.MIN_VALUE, Integer.MAX_VALUE};
        for (int k = 0; k < not.length; k++) {
            due("weeks(" + not[k] + ")", x.weeks(not[k]), NONE);
            due("status(1)", x.status(1), k + 1);
        }
        due("count(5)", x.count(5), 0);
        due("weeks(1)", x.weeks(1), 1);
        due("weeks(60)", x.weeks(60), 61);
        due("weeks(59)", x.weeks(59), 120);
        says("10. no COUNTY (STATUS 0)");
        x = new SaddlerKnows();
        due("weeks(1)", x.weeks(1), NONE);
        due("weeks(0)", x.weeks(0), NONE);
        due("status(0)", x.status(0), 2);
        due("status(1)", x.status(1), 0);
    }

    private static void logOfSixty() {
        says("2. the LOG (the latest 60)");
        SaddlerKnows x = county("sh0;p;pt0;l", "y:w=0?1;y:w=1?2;y:w=2?4;y:0");
        due("log(0, 1) of none", x.log(0, 1), NONE);
        due("count(9)", x.count(9), 0);
        x.weeks(1);
        due("log(0, 1)", x.log(0, 1), 1);
        due("log(1, 1)", x.log(1, 1), NONE);
        due("count(9)", x.count(9), 1);
        x.weeks(58);
        due("count(9)", x.count(9), 59);
        due("log(58, 1)", x.log(58, 1), 1);
        due("log(59, 1)", x.log(59, 1), NONE);
        x.weeks(1);
        due("count(9)", x.count(9), 60);
        due("log(59, 1)", x.log(59, 1), 1);
        due("log(58, 1)", x.log(58, 1), 3);
        x.weeks(1);
        due("count(9)", x.count(9), 60);
        due("log(59, 1): the first is gone", x.log(59, 1), 3);
        due("log(60, 1)", x.log(60, 1), NONE);
        x.weeks(1);
        due("log(59, 1): the second, too", x.log(59, 1), 7);
        says("20. NONE: no such ones");
        due("log(-1, 1)", x.log(-1, 1), NONE);
        due("log(0, 3)", x.log(0, 3), NONE);
        due("log(0, -1)", x.log(0, -1), NONE);
        due("log(0, 0)", x.log(0, 0), 0);
        due("log(0, 2)", x.log(0, 2), 1);
        due("log(60, 3)", x.log(60, 3), NONE);
        due("log(0, 0) of no county", new SaddlerKnows().log(0, 0), NONE);
    }

    // ---- by hand ----

    private static void making() {
        says("11. no such PERSONS (STATUS 0)");
        SaddlerKnows x = county("sk99;p;p;p;l");
        int[][] none = {{3, 0}, {0, 3}, {-1, 0}, {0, -1}, {3, 3}, {-1, -1}};
        for (int k = 0; k < none.length; k++) {
            due("makes(" + none[k][0] + ", " + none[k][1] + ", 0)", x.makes(none[k][0], none[k][1], 0), NONE);
            due("status(0)", x.status(0), k + 1);
        }
        says("11. alike, no such FIT (1)");
        due("makes(2, 2, 0)", x.makes(2, 2, 0), NONE);
        due("makes(2, 1, 10)", x.makes(2, 1, 10), NONE);
        due("makes(2, 1, -1)", x.makes(2, 1, -1), NONE);
        due("status(1)", x.status(1), 3);
        says("11. he has one there (2)");
        due("makes(0, 1, 5)", x.makes(0, 1, 5), NONE);
        due("makes(0, 1, 6)", x.makes(0, 1, 6), NONE);
        due("status(2)", x.status(2), 2);
        due("rule(1): nothing was paid", x.rule(1), 99);
        due("count(6)", x.count(6), 1);
        due("makes(1, 0, 0): the other way round", x.makes(1, 0, 0), 1);
        due("makes(2, 1, 9): another one", x.makes(2, 1, 9), 2);
        due("makes(0, 2, 0): on another one", x.makes(0, 2, 0), 3);
        x.off(0);
        due("makes(0, 1, 5): where he has none any more", x.makes(0, 1, 5), 0);
        says("2. 3 COINS; 11. too few COINS (3)");
        for (int coins = 0; coins <= 4; coins++) {
            x = county("sk" + coins + ";p;p");
            due("makes(0, 1, 5) with " + coins, x.makes(0, 1, 5), coins < 3 ? NONE : 0);
            due("rule(1)", x.rule(1), coins < 3 ? coins : coins - 3);
            due("status(3)", x.status(3), coins < 3 ? 1 : 0);
            due("count(6)", x.count(6), coins < 3 ? 0 : 1);
        }
    }

    private static void makingPlaces() {
        says("11. no place (3)");
        SaddlerKnows x = county("sk99" + EIGHT);
        due("makes(3, 0, 5) as a ninth one", x.makes(3, 0, 5), NONE);
        due("status(3)", x.status(3), 1);
        due("rule(1)", x.rule(1), 99);
        says("2. the lowest place with none has it");
        x.off(7);
        due("makes(3, 0, 5) as an eighth one", x.makes(3, 0, 5), 7);
        x.off(6);
        x.off(0);
        x.off(3);
        due("makes(3, 1, 5)", x.makes(3, 1, 5), 0);
        due("makes(3, 2, 5)", x.makes(3, 2, 5), 3);
        due("makes(2, 3, 5)", x.makes(2, 3, 5), 6);
        due("makes(2, 1, 5)", x.makes(2, 1, 5), NONE);
    }

    private static void stitching() {
        says("2. as many COINS as both are apart; 12. too few COINS (3)");
        int[][] apart = {{9, 4}, {1, 4}, {6, 1}, {4, 1}, {0, 5}};
        for (int[] to : apart) {
            for (int coins = to[1] - 1; coins <= to[1] + 1; coins++) {
                boolean can = coins >= to[1];
                SaddlerKnows x = county("sk" + coins + ";p;p;l");
                due("stitch(0, " + to[0] + ") with " + coins, x.stitch(0, to[0]), can ? 5 : NONE);
                due("rule(1)", x.rule(1), can ? coins - to[1] : coins);
                due("saddle(0, 2)", x.saddle(0, 2), can ? to[0] : 5);
                due("status(3)", x.status(3), can ? 0 : 1);
            }
        }
        says("12. none there (STATUS 0)");
        SaddlerKnows x = county("sk99;p;p;lf9;lr1u0f0");
        int[] none = {-1, 2, 7, 8, 99};
        for (int k = 0; k < none.length; k++) {
            due("stitch(" + none[k] + ", 3)", x.stitch(none[k], 3), NONE);
            due("status(0)", x.status(0), k + 1);
        }
        says("12. no such FIT (1)");
        due("stitch(0, 10)", x.stitch(0, 10), NONE);
        due("stitch(0, -1)", x.stitch(0, -1), NONE);
        due("status(1)", x.status(1), 2);
        says("12. it is so (2)");
        due("stitch(0, 9)", x.stitch(0, 9), NONE);
        due("stitch(1, 0)", x.stitch(1, 0), NONE);
        due("status(2)", x.status(2), 2);
        due("stitch(0, 0)", x.stitch(0, 0), 9);
        due("stitch(1, 9)", x.stitch(1, 9), 0);
        due("rule(1)", x.rule(1), 81);
    }

    private static void takingOff() {
        says("13. none there (STATUS 0)");
        SaddlerKnows x = county("sk0;p;p;l;lr1u0");
        int[] none = {-1, 2, 7, 8, Integer.MIN_VALUE};
        for (int k = 0; k < none.length; k++) {
            due("off(" + none[k] + ")", x.off(none[k]), NONE);
            due("status(0)", x.status(0), k + 1);
        }
        due("count(6)", x.count(6), 2);
        says("2. It is taken OFF (for nothing)");
        due("off(1)", x.off(1), 1);
        due("off(1) once more", x.off(1), NONE);
        due("off(0)", x.off(0), 0);
        due("rule(1)", x.rule(1), 0);
    }

    private static void salving() {
        says("2. 5 less, 0 at least");
        int[][] salved = {{1, 0}, {4, 0}, {5, 0}, {6, 1}, {29, 24}};
        for (int[] gall : salved) {
            SaddlerKnows x = galled("", 0, gall[0]);
            due("salve(1) of " + gall[0], x.salve(1), gall[1]);
            due("person(1, 3)", person(x, 1, 3), gall[1]);
        }
        says("2. 2 COINS; 14. too few COINS (3)");
        for (int coins = 0; coins <= 3; coins++) {
            SaddlerKnows x = county("sk" + coins + ";p;pt0;l", "y:9");
            x.weeks(1);
            // a week with one saddle has brought one coin
            due("salve(1) with " + (coins + 1), x.salve(1), coins < 1 ? NONE : 4);
            due("rule(1)", x.rule(1), coins < 1 ? 1 : coins - 1);
            due("status(3)", x.status(3), coins < 1 ? 1 : 0);
        }
        says("14. no GALL (2)");
        SaddlerKnows x = galled("", 0, 5);
        due("salve(0)", x.salve(0), NONE);
        due("status(2)", x.status(2), 1);
        due("salve(1)", x.salve(1), 0);
        due("salve(1) of none any more", x.salve(1), NONE);
        due("status(2)", x.status(2), 2);
        due("rule(1): paid once", x.rule(1), 19);
        says("14. no such PERSON (STATUS 0)");
        due("salve(2)", x.salve(2), NONE);
        due("salve(-1)", x.salve(-1), NONE);
        due("status(0)", x.status(0), 2);
    }

    private static void giving() {
        says("2. COINS are given (1 .. 50); 15. out of bounds (1)");
        SaddlerKnows x = county("sk0;p;p");
        int[] not = {0, 51, -1, 999, Integer.MIN_VALUE, Integer.MAX_VALUE};
        for (int k = 0; k < not.length; k++) {
            due("give(" + not[k] + ")", x.give(not[k]), NONE);
            due("status(1)", x.status(1), k + 1);
        }
        due("give(1)", x.give(1), 1);
        due("give(50)", x.give(50), 51);
        says("2. 999 at most; 15. above 999 (1)");
        for (int k = 2; k <= 19; k++) {
            x.give(50);
        }
        due("rule(1)", x.rule(1), 951);
        due("give(49)", x.give(49), NONE);
        due("status(1)", x.status(1), 7);
        due("rule(1)", x.rule(1), 951);
        due("give(48)", x.give(48), 999);
        due("give(1)", x.give(1), NONE);
        x.undo();
        due("give(47)", x.give(47), 998);
        due("give(2)", x.give(2), NONE);
        due("give(1)", x.give(1), 999);
        says("15. no COUNTY (STATUS 0)");
        x = new SaddlerKnows();
        due("give(1)", x.give(1), NONE);
        due("give(51)", x.give(51), NONE);
        due("status(0)", x.status(0), 2);
        due("status(1)", x.status(1), 0);
    }

    // ---- acts undone ----

    private static void fortyActs() {
        says("2. the latest 40 can be UNDONE one by one");
        for (int acts = 39; acts <= 42; acts++) {
            SaddlerKnows x = county("sk0;p;p");
            for (int k = 0; k < acts; k++) {
                x.give(1);
            }
            int kept = Math.min(40, acts);
            due("count(10)", x.count(10), kept);
            for (int k = 1; k <= kept; k++) {
                due("undo()", x.undo(), kept - k);
                due("rule(1)", x.rule(1), acts - k);
            }
            due("undo() of none", x.undo(), NONE);
            due("rule(1)", x.rule(1), acts - kept);
            due("give(1): another one", x.give(1), acts - kept + 1);
            due("undo()", x.undo(), 0);
        }
        says("2. All these (each WEEK) are ACTS");
        SaddlerKnows x = county("sk9;p;pt0;l", "y:9");
        x.weeks(2);
        due("count(10) behind two weeks", x.count(10), 2);
        x.makes(1, 0, 0);
        x.stitch(0, 6);
        x.off(1);
        x.salve(1);
        x.give(1);
        due("count(10) behind five acts more", x.count(10), 7);
        x.rest(0);
        x.law(NONE);
        x.image();
        x.seen(0, 1, 1, true);
        x.end(0);
        due("count(10): these are none", x.count(10), 7);
        says("19. NONE: none");
        due("undo() of no county", new SaddlerKnows().undo(), NONE);
        due("undo() of a new county", county("p;p").undo(), NONE);
    }

    private static void undoneLog() {
        says("2. UNDONE (LOG, too)");
        SaddlerKnows x = county("sh0;p;pt0;l", "y:w<12?1;y:0");
        x.weeks(3);
        x.undo();
        due("count(9)", x.count(9), 2);
        due("log(0, 1)", x.log(0, 1), 2);
        due("log(1, 1)", x.log(1, 1), 1);
        due("log(2, 1)", x.log(2, 1), NONE);
        x.undo();
        x.undo();
        due("log(0, 1) of none", x.log(0, 1), NONE);
        says("2. UNDONE (LOG, too): the eldest come back");
        for (int gone = 59; gone <= 61; gone++) {
            x = county("sh0;p;pt0;l", "y:w<12?1;y:0");
            weeks(x, gone);
            x.weeks(1);
            x.undo();
            due("count(9) of week " + gone, x.count(9), Math.min(60, gone));
            due("the eldest of week " + gone, x.log(Math.min(60, gone) - 1, 1), gone - Math.min(60, gone) + 1);
            due("no elder one", x.log(60, 1), NONE);
        }
        x = county("sh0;p;pt0;l", "y:w<12?1;y:0");
        weeks(x, 110);
        for (int k = 39; k >= 0; k--) {
            due("undo()", x.undo(), k);
        }
        due("count(5)", x.count(5), 70);
        for (int i = 0; i < 60; i++) {
            due("log(" + i + ", 1) of week 70", x.log(i, 1), Math.min(12, 70 - i));
        }
    }

    // ---- STATUS ----

    private static void statusCounts() {
        says("18. NONE: no such what");
        SaddlerKnows x = new SaddlerKnows();
        due("status(-1)", x.status(-1), NONE);
        due("status(5)", x.status(5), NONE);
        due("status(4)", x.status(4), 0);
        due("status(0)", x.status(0), 0);
        says("2. STATUS: how many ACTS were refused as there was no such one (0; a place with none, too)");
        x.makes(0, 1, 1);
        x.stitch(0, 1);
        x.off(0);
        x.salve(0);
        x.give(1);
        x.weeks(1);
        due("status(0)", x.status(0), 6);
        says("2. STATUS: of ACTS alone");
        x.years(0, 0);
        x.years(1, 1);
        x.undo();
        x.image();
        x.back();
        x.rest(77);
        x.law(4);
        x.text(5);
        x.end(-1);
        x.feed(0, 0, 0, 0, 0);
        x.seen(0, 0, 0, true);
        x.pinch(0, 0, 0);
        x.bears(0, 0, 0);
        int[] then = {6, 0, 0, 0, 0};
        for (int what = 0; what < 5; what++) {
            due("status(" + what + ")", x.status(what), then[what]);
        }
    }

    private static void only(SaddlerKnows x, int what) {
        for (int k = 0; k < 5; k++) {
            due("status(" + k + ")", x.status(k), k == what ? 1 : 0);
        }
    }

    private static void statusFirst() {
        says("2. STATUS: of several the first");
        SaddlerKnows x = county("sk1" + EIGHT);
        x.makes(4, 4, 10);
        only(x, 0);
        x = county("sk1" + EIGHT);
        x.makes(0, 1, 10);
        only(x, 1);
        x = county("sk1" + EIGHT);
        x.makes(1, 1, 5);
        only(x, 1);
        x = county("sk1" + EIGHT);
        x.makes(0, 1, 5);
        only(x, 2);
        x = county("sk1" + EIGHT);
        x.makes(3, 0, 5);
        only(x, 3);
        x = county("sk1;p;p;l");
        x.stitch(1, 10);
        only(x, 0);
        x = county("sk0;p;p;l");
        x.stitch(0, 10);
        only(x, 1);
        x = county("sk0;p;p;l");
        x.stitch(0, 5);
        only(x, 2);
        x = county("sk0;p;p;l");
        x.stitch(0, 4);
        only(x, 3);
        x = county("sk0;p;p");
        x.salve(2);
        only(x, 0);
        x = county("sk0;p;p");
        x.salve(1);
        only(x, 2);
        x = new SaddlerKnows();
        x.give(0);
        only(x, 0);
        x = new SaddlerKnows();
        x.weeks(0);
        only(x, 0);
        x = county("p;p");
        weeks(x, 999);
        x.weeks(61);
        only(x, 1);
        x = county("p;p");
        weeks(x, 999);
        x.weeks(60);
        only(x, 4);
    }

    private static void statusStays() {
        says("2. STATUS: not UNDONE");
        SaddlerKnows x = county("p;p");
        x.give(1);
        x.give(0);
        x.off(0);
        x.undo();
        due("status(0)", x.status(0), 1);
        due("status(1)", x.status(1), 1);
        x.image();
        x.give(0);
        x.back();
        due("status(1) behind back()", x.status(1), 2);
        tell(x, "p;p", 0);
        due("status(0) of the next county", x.status(0), 1);
        due("status(1) of the next county", x.status(1), 2);
        says("What is refused changes nothing but STATUS: no ACT");
        x.give(2);
        x.give(51);
        x.makes(0, 0, 0);
        x.weeks(99);
        due("count(10)", x.count(10), 1);
        due("undo()", x.undo(), 0);
        due("rule(1)", x.rule(1), 20);
    }

    // ---- YEARS ----

    private static void resting() {
        says("4. REST (0 .. 9; 2 at first); 16. False: out of bounds, it is so");
        SaddlerKnows x = new SaddlerKnows();
        due("count(7)", x.count(7), 2);
        due("rest(2)", x.rest(2), false);
        due("rest(-1)", x.rest(-1), false);
        due("rest(10)", x.rest(10), false);
        due("count(7)", x.count(7), 2);
        for (int v : new int[] {0, 9, 1, 8, 2}) {
            due("rest(" + v + ")", x.rest(v), true);
            due("count(7)", x.count(7), v);
            due("rest(" + v + ") once more", x.rest(v), false);
            due("count(7)", x.count(7), v);
        }
    }

    private static void yearsBounds() {
        says("17. NONE: no COUNTY");
        SaddlerKnows x = new SaddlerKnows();
        due("years(1, 1)", x.years(1, 1), NONE);
        says("17. NONE: out of bounds");
        x = county("p;p");
        int[] not = {0, 61, -1, Integer.MIN_VALUE, Integer.MAX_VALUE};
        for (int n : not) {
            due("years(" + n + ", 1)", x.years(n, 1), NONE);
        }
        due("count(5)", x.count(5), 0);
        due("count(10)", x.count(10), 0);
        due("years(1, 1)", x.years(1, 1), 1);
        due("years(60, 1)", x.years(60, 1), 61);
        says("4. YEARS: No STATUS");
        for (int what = 0; what < 5; what++) {
            due("status(" + what + ")", x.status(what), 0);
        }
    }

    /** Draws reckoned apart, with numbers as long as they come. */
    private static final class Draws {
        private static final BigInteger ALL = BigInteger.ONE.shiftLeft(64);
        private BigInteger x;

        Draws(long seed) {
            x = BigInteger.valueOf(seed).mod(ALL);
        }

        int next(int j) {
            x = x.multiply(new BigInteger("6364136223846793005")).add(new BigInteger("1442695040888963407")).mod(ALL);
            return x.shiftRight(33).mod(BigInteger.valueOf(j)).intValue();
        }
    }

    /** The first seed of which the first draws for so many persons are these: one, other, (any fit), the draw of 10. */
    private static long seedOf(int persons, int one, int other, int rest, int place) {
        for (long seed = 1; seed < 1000000; seed++) {
            Draws draws = new Draws(seed);
            if (draws.next(persons) == one && draws.next(persons) == other && draws.next(10) >= 0
                    && draws.next(10) == rest && draws.next(8) == place) {
                return seed;
            }
        }
        throw new IllegalStateException("no such seed");
    }

    private static int fitOf(int persons, long seed) {
        Draws draws = new Draws(seed);
        draws.next(persons);
        draws.next(persons);
        return draws.next(10);
    }

    private static void yearsSaddles() {
        says("4. a SADDLE of the first on the second with that FIT (for nothing)");
        long seed = seedOf(2, 1, 0, 9, 0);
        SaddlerKnows x = county("sk0;p;p", "y:0");
        due("years(1, " + seed + ")", x.years(1, seed), 1);
        due("saddle(0, 0)", x.saddle(0, 0), 1);
        due("saddle(0, 1)", x.saddle(0, 1), 0);
        due("saddle(0, 2)", x.saddle(0, 2), fitOf(2, seed));
        due("rule(1): one for the saddle", x.rule(1), 1);
        says("4. YEARS: unlike");
        x = county("sk0;p;p", "y:0");
        x.years(1, seedOf(2, 1, 1, 9, 0));
        due("count(6) of two alike", x.count(6), 0);
        says("4. YEARS: none there");
        x = county("sk0;p;p;lr1u0f" + (fitOf(2, seed) + 1) % 10, "y:0");
        x.years(1, seed);
        due("count(6) with one there", x.count(6), 1);
        due("saddle(0, 2): it is as it was", x.saddle(0, 2), (fitOf(2, seed) + 1) % 10);
        x = county("sk0;p;p;l", "y:0");
        x.years(1, seed);
        due("count(6) with one the other way round", x.count(6), 2);
        says("4. YEARS: a place");
        seed = seedOf(4, 3, 0, 9, 0);
        x = county("sk0" + EIGHT, "y:0");
        x.years(1, seed);
        due("count(6) with no place", x.count(6), 8);
        due("saddle(7, 0)", x.saddle(7, 0), 2);
        x = county("sk0" + EIGHT, "y:0");
        x.off(5);
        x.years(1, seed);
        due("saddle(5, 0): the lowest place with none", x.saddle(5, 0), 3);
        due("saddle(5, 1)", x.saddle(5, 1), 0);
        says("4. a draw of how many PERSONS there are");
        seed = seedOf(6, 5, 4, 9, 0);
        x = county("p;p;p;p;p;p", "y:0");
        x.years(1, seed);
        due("saddle(0, 0) of six", x.saddle(0, 0), 5);
        due("saddle(0, 1) of six", x.saddle(0, 1), 4);
    }

    private static void yearsOff() {
        says("4. then a draw of 10: below REST a draw of 8: the SADDLE in that place is taken OFF");
        for (int rest = 0; rest <= 9; rest++) {
            for (int drawn = Math.max(0, rest - 1); drawn <= rest; drawn++) {
                long seed = seedOf(2, 1, 1, drawn, 0);
                SaddlerKnows x = county("p;p;l", "y:0");
                x.rest(rest);
                x.years(1, seed);
                due("count(6) with " + drawn + " drawn of " + rest, x.count(6), drawn < rest ? 0 : 1);
            }
        }
        says("4. a draw of 8: each place");
        for (int place = 0; place < 8; place++) {
            SaddlerKnows x = county("sk0" + EIGHT, "y:0");
            x.years(1, seedOf(4, 1, 1, 1, place));
            due("most(10)", x.most(10), 255 - (1 << place));
        }
        says("4. taken OFF, if there is one");
        SaddlerKnows x = county("p;p;l", "y:0");
        x.years(1, seedOf(2, 1, 1, 0, 7));
        due("count(6)", x.count(6), 1);
        says("4. what has just been made can be taken OFF, and brings no coin");
        x = county("sk0;p;p", "y:0");
        x.years(1, seedOf(2, 0, 1, 0, 0));
        due("count(6)", x.count(6), 0);
        due("rule(1)", x.rule(1), 0);
    }

    private static void yearsGoRound() {
        says("4. x, at first the seed (64 bits, going round); shifted right by 33, without sign");
        long[] seeds = {0, 1, -1, Long.MAX_VALUE, Long.MIN_VALUE, 1L << 33, -(1L << 33), 0x5851f42d4c957f2dL};
        for (long seed : seeds) {
            SaddlerKnows x = county("sk0;p;p;p;p;p;p", "y:0");
            Draws draws = new Draws(seed);
            int[] saddles = new int[8];
            java.util.Arrays.fill(saddles, NONE);
            for (int week = 0; week < 20; week++) {
                int one = draws.next(6);
                int other = draws.next(6);
                int fit = draws.next(10);
                int place = 0;
                boolean can = one != other;
                for (int k = 7; k >= 0; k--) {
                    place = saddles[k] == NONE ? k : place;
                    can &= saddles[k] == NONE || saddles[k] / 10 != one * 10 + other;
                }
                if (can && saddles[place] == NONE) {
                    saddles[place] = one * 100 + other * 10 + fit;
                }
                if (draws.next(10) < 2) {
                    saddles[draws.next(8)] = NONE;
                }
            }
            x.years(20, seed);
            for (int k = 0; k < 8; k++) {
                int got = x.saddle(k, 0) == NONE ? NONE
                    : x.saddle(k, 0) * 100 + x.saddle(k, 1) * 10 + x.saddle(k, 2);
                due("the saddle in place " + k + " by the seed " + seed, got, saddles[k]);
            }
        }
    }

    private static void yearsAct() {
        says("4. Each WEEK with what is ahead of it is one ACT");
        long seed = seedOf(2, 1, 0, 9, 0);
        SaddlerKnows x = county("sk3;p;p", "y:0");
        x.years(1, seed);
        due("count(10)", x.count(10), 1);
        due("undo()", x.undo(), 0);
        due("count(6)", x.count(6), 0);
        due("count(5)", x.count(5), 0);
        due("rule(1)", x.rule(1), 3);
        due("log(0, 0)", x.log(0, 0), NONE);
        x = county("sk3;p;p;lr1u0", "y:0");
        x.years(1, seedOf(2, 1, 1, 0, 0));
        due("count(6)", x.count(6), 0);
        due("undo()", x.undo(), 0);
        due("count(6): not off any more", x.count(6), 1);
        x.years(39, 5);
        due("count(10)", x.count(10), 39);
        x.years(1, 5);
        due("count(10)", x.count(10), 40);
        x.years(2, 5);
        due("count(10): the latest 40", x.count(10), 40);
        says("4. x, at first the seed: each time anew");
        SaddlerKnows y = county("sk3;p;p;p;p;p", "y:0");
        SaddlerKnows z = county("sk3;p;p;p;p;p", "y:0");
        y.years(5, 99);
        for (int k = 0; k < 5; k++) {
            y.undo();
        }
        y.years(5, 99);
        z.years(5, 99);
        for (int k = 0; k < 8; k++) {
            for (int what = 0; what < 3; what++) {
                due("saddle(" + k + ", " + what + ")", y.saddle(k, what), z.saddle(k, what));
            }
        }
    }

    // ---- images ----

    private static void images() {
        says("37. NONE: no COUNTY");
        SaddlerKnows x = new SaddlerKnows();
        due("image()", x.image(), NONE);
        due("back()", x.back(), NONE);
        says("37. An IMAGE (instead of the one ahead): the WEEK");
        x = county("sk9;p;p");
        due("image()", x.image(), 0);
        x.weeks(1);
        due("image()", x.image(), 1);
        x.weeks(1);
        due("back()", x.back(), 1);
        weeks(x, 998);
        due("image() in the last week", x.image(), 999);
        x.undo();
        due("back()", x.back(), 999);
    }

    private static void backs() {
        says("4. An IMAGE keeps SADDLES, GALLS, COINS, the WEEK, the LOG; BACK: they are so again");
        SaddlerKnows x = county("sk9;p;pt0;p;l;lr1u0f2", "y:5");
        x.weeks(2);
        x.image();
        x.weeks(3);
        x.makes(2, 1, 4);
        x.stitch(1, 3);
        x.salve(1);
        x.give(7);
        x.off(0);
        due("back()", x.back(), 2);
        due("most(10)", x.most(10), 3);
        due("saddle(1, 2)", x.saddle(1, 2), 2);
        due("person(1, 3)", person(x, 1, 3), 10);
        due("person(0, 3)", person(x, 0, 3), 10);
        due("rule(1)", x.rule(1), 13);
        due("count(9)", x.count(9), 2);
        due("log(0, 1)", x.log(0, 1), 20);
        due("log(1, 1)", x.log(1, 1), 10);
        due("log(2, 1)", x.log(2, 1), NONE);
        says("4. no ACT can be UNDONE then");
        due("count(10)", x.count(10), 0);
        due("undo()", x.undo(), NONE);
        x.give(1);
        due("count(10)", x.count(10), 1);
        due("undo()", x.undo(), 0);
        due("undo()", x.undo(), NONE);
        due("rule(1)", x.rule(1), 13);
        says("38. BACK once more");
        due("back()", x.back(), 2);
        x.off(1);
        due("back()", x.back(), 2);
        due("count(6)", x.count(6), 2);
        says("4. what an IMAGE does not keep");
        x.rest(9);
        x.seen(0, 1, 1, true);
        tell(x, "y:6", 1);
        x.law(1);
        feed(x, "abc");
        x.give(0);
        x.back();
        int[] counts = {3, 2, 2, 3, 1, 2, 2, 9, 1, 2, 0};
        for (int what = 0; what < counts.length; what++) {
            due("count(" + what + ")", x.count(what), counts[what]);
        }
        due("status(1)", x.status(1), 1);
    }

    private static void imageOfThisCounty() {
        says("38. NONE: no IMAGE of this COUNTY");
        SaddlerKnows x = county("p;p");
        x.weeks(3);
        due("back()", x.back(), NONE);
        due("count(5)", x.count(5), 3);
        due("count(10)", x.count(10), 3);
        x.image();
        due("text(0) of a fault", tell(x, "p", 0), NONE);
        due("back(): it is there still", x.back(), 3);
        tell(x, "y:1", 1);
        due("back(): a law takes none", x.back(), 3);
        due("text(0)", tell(x, "p;p", 0), 2);
        due("back() of another county", x.back(), NONE);
        due("count(5)", x.count(5), 0);
        due("image()", x.image(), 0);
        due("back()", x.back(), 0);
    }

    private static void imageLog() {
        says("4. BACK: the LOG of sixty");
        SaddlerKnows x = county("sh0;p;pt0;l", "y:w<29?1;y:0");
        weeks(x, 70);
        x.image();
        x.off(0);
        weeks(x, 150);
        due("log(0, 2)", x.log(0, 2), 0);
        due("back()", x.back(), 70);
        due("count(9)", x.count(9), 60);
        for (int i = 0; i < 60; i++) {
            due("log(" + i + ", 1)", x.log(i, 1), Math.min(29, 70 - i));
            due("log(" + i + ", 2)", x.log(i, 2), 1);
        }
        due("log(60, 1)", x.log(60, 1), NONE);
        x.weeks(1);
        due("log(59, 1)", x.log(59, 1), 12);
    }
}
