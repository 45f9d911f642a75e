/** Each promise by hand: ordinary calls, the edges that the document names, wrong arguments. */
public final class PromisesTest extends Calls {
    private static final int[] FAR = {Integer.MIN_VALUE, -2, -1, 6, 100, Integer.MAX_VALUE};

    /** Pinches by no law: 0 on 1: 1 + 2 a week, 2 on 1: 0, 1 on 2: 2 + 1; nobody on 0. */
    private static final String THREE = "sh3k30;ps6b5t2;ps4b7t9;ps2b3t0;lr0u1f6;lr2u1f7;lr1u2f1";

    public static void main(String[] args) {
        newObject();
        feeding();
        ending();
        countyFaults();
        lawFaults();
        texts();
        lawWorths();
        rules();
        persons();
        saddles();
        lawsThatHold();
        weeksGoing();
        weeksThrowing();
        making();
        stitching();
        takingOff();
        salving();
        giving();
        resting();
        yearsByDraws();
        statuses();
        undoing();
        logging();
        limits();
        pinches();
        bests();
        throwings();
        bearings();
        ringsAndChains();
        seating();
        seeing();
        asking();
        waitings();
        rests();
        oddsOfIdleWeeks();
        sharing();
        mosts();
        images();
        counts();
        finish("promises");
    }

    private static void newObject() {
        says("promise 1");
        SaddlerKnows x = new SaddlerKnows();
        due("NONE", SaddlerKnows.NONE, NONE);
        due("HIDDEN", SaddlerKnows.HIDDEN, HIDDEN);
        int[] counts = {0, 0, 0, 0, NONE, 0, 0, 2, 0, 0, 0};
        for (int what = 0; what < counts.length; what++) {
            due("count(" + what + ")", x.count(what), counts[what]);
        }
        due("person(0, 0)", person(x, 0, 0), NO_SUCH);
        due("rule(0)", x.rule(0), NONE);
        due("undo()", x.undo(), NONE);
        due("image()", x.image(), NONE);
        due("back()", x.back(), NONE);
        due("ring()", x.ring(), NONE);
        due("chain(0, 0)", x.chain(0, 0), NONE);
        due("seats(0)", x.seats(0), NONE);
        due("most(11)", x.most(11), NONE);
        due("years(1, 1)", x.years(1, 1), NONE);
        due("log(0, 0)", x.log(0, 0), NONE);
        due("waiting(0, 1, 0, 0, 0)", x.waiting(0, 1, 0, 0, 0), HIDDEN);
    }

    private static void feeding() {
        says("promise 2");
        SaddlerKnows x = new SaddlerKnows();
        due("feed of nothing", x.feed(0, 0, 0, 0, 0), 0);
        due("feed 'p;p' with bytes of 0 between", x.feed(0x70000000, 0x003b0000, 0, 0x0000, 0x00000070), 3);
        due("fault(0): the highest byte is the first", x.fault(0), NONE);
        due("text(0)", x.text(0), 2);
        due("feed of high bytes", x.feed(-1, 0x80, 0, 0, 0), 5);
        x.end(0);
        for (int k = 1; k <= 11; k++) {
            due("feed of twenty", x.feed(-1, -1, -1, -1, -1), 20 * k);
        }
        due("feed of nineteen", x.feed(-1, -1, -1, -1, 0xffffff), 239);
        due("feed of two more than 240 by one", x.feed(0, 0, 0x0101, 0, 0), NONE);
        due("count(3)", x.count(3), 239);
        x.end(225);
        for (int k = 0; k < 5; k++) {
            int[] n = new int[5];
            for (int j = 0; j < 5; j++) {
                n[j] = j == k ? 1 : -1;
            }
            due("feed of seventeen more than 239", x.feed(n[0], n[1], n[2], n[3], n[4]), NONE);
        }
        due("feed of fourteen", x.feed(-1, 0, -1, -1, 0x0101), 239);
        due("feed of the last one", x.feed(0, 0, 0, 0, 1), 240);
        due("feed of one too many", x.feed(1, 0, 0, 0, 0), NONE);
        due("feed of nothing more", x.feed(0, 0, 0, 0, 0), 240);
    }

    private static void ending() {
        says("promise 3");
        SaddlerKnows x = new SaddlerKnows();
        due("end(0)", x.end(0), true);
        due("end(1)", x.end(1), false);
        feed(x, "p;p;x");
        due("end(-1)", x.end(-1), false);
        due("end(6)", x.end(6), false);
        due("end(5)", x.end(5), true);
        due("count(3)", x.count(3), 5);
        due("end(3)", x.end(3), true);
        due("count(3)", x.count(3), 3);
        due("end(4)", x.end(4), false);
        due("fault(0)", x.fault(0), NONE);
        due("end(MAX)", x.end(Integer.MAX_VALUE), false);
        feed(x, ";   ");
        due("end(4)", x.end(4), true);
        due("fault(0): what was behind it is gone", x.fault(0), 4);
    }

    private static void countyFaults() {
        says("promise 4");
        faults(2, -2, "", "p;p");
        faults(-1, -2, "p;p");
        faults(0, NONE, "p;p", "  p ; p  ", "p;s;p", "l;p;p", "p;p;p;p;p;p", "ps09b00;p", "sh9k99;p;p", "sk0h0;p;p",
            "pt1b2s3;p", "p;p;lr1u0;lr0u1", "p;p;lf9u1r0", "p;p;p;l;lr1u2;lr2u0;lr1u0;lr2u1;lu2",
            "p;p;p;p;l;lu2;lu3;lr1u0;lr1u2;lr1u3;lr2u0;lr2u1");
        faults(0, 0, "", "x", ";", "1", "\u00ff", "\t");
        faults(0, 1, " ", "p", "s", "l", "px", "pp", "p,p", "p:p", " x");
        faults(0, 2, "p;", "  ", "s;", "ps", "p;;p", "p;x", "lr6", "lu9", "shx;p", "psb", "sh");
        faults(0, 3, "p;p\n", "p;ph", "s h", "p;px");
        // a number out of bounds is wrong at its last digit, a third digit itself
        faults(0, 3, "sh10;p;p", "ps10", "pb99;p", "sh20", "pt10", "lr06", "lu10", "lf10");
        faults(0, 4, "sh100", "sh000", "lr066", "sk100", "ps123456", "pt999;p", "sk1000");
        faults(0, 4, "ps1 0;p", "s h ", "p;ps");
        faults(0, 5, "sk10 0", "ps1 b", "ps 1b", "s h1 2");
        // a letter that was there, a second s, a seventh p, a ninth l
        faults(0, 3, "sh1h1", "pb2b;p", "lf1f1", "sk1k2");
        faults(0, 5, "p;ps1s1", "sh1k1h", "lr1u2r1", "ps1b1s");
        faults(0, 4, "p;p;");
        faults(0, 2, "s;s", "s;s;p;p", "p;;");
        faults(0, 12, "p;p;p;p;p;p;p", "p;p;p;p;p;p;p;lu1");
        faults(0, 16, "l;l;l;l;l;l;l;l;l", "l;l;l;l;l;l;l;l;lr1u0");
        faults(0, 17, "l;l;l;l;l;l;l;lf10");
        // what is wrong of the whole is told at the length
        faults(0, 7, "p;p;lu0", "p;p;lr1", "p;p;lu2", "p;p;lr5", "p;p;l;l", "p;s;l;l");
        faults(0, 11, "p;p;lu0;  p", "p;p;l;lr0u1", "l;lf3;p;p;s");
        faults(0, 9, "p;p;p;lu3", "p;p;p;lr4", "p;p;p;lr3");
        faults(0, NONE, "p;p;p;lu2", "p;p;lu2;p", "lr5u4;p;p;p;p;p;p");
    }

    private static void lawFaults() {
        says("promise 4");
        faults(1, NONE, "y:s", "y:1", " y : 9999 ", "y:s+b-f*t/g", "y:s>1?b", "y:!s>1?b;y:2", "y:(s>1)?b",
            "y:!(s>1|b<2)&g=1?[s+1]*2-w", "y:[s]>[b]?1", "y:s=1&!b=2|t<3?1", "y:0000", "y:!!!!!!s=1?1",
            "y:[[[[[[1]]]]]]", "y:((((((s=1))))))?1", "y:!(!(!(1=1)))?1", "y:1;y:2;y:3");
        faults(1, 0, "", "x", "Y:1", "s", ":1", "\u00e9");
        faults(1, 1, "y", "y1", "y;", "yy:1");
        faults(1, 2, "y:", "y:?", "y:a", "y:)", "y:]", "y:*2", "y:-1", "y:=1", "y:h", "y:y");
        faults(1, 3, "y:s?1", "y:s)", "y:s]", "y:1s", "y:(", "y:!", "y:[", "y:!?", "y:[]", "y:()", "y:s&1", "y:ss",
            "y:s!", "y:s(", "y:s[", "y:1,2", "y:s|b=1?1", "y:!;");
        faults(1, 4, "y:1;", "y:s+", "y:s>", "y:s=?", "y:1;x", "y:s+;", "y:[s", "y:1;;", "y:!s", "y:(s", "y:s+-1");
        faults(1, 4, "y:1 2", "y:(s)>1?2", "y:!s?1", "y:(s?1", "y:!s&1", "y:[s>1]", "y:[s)");
        faults(1, 5, "y:s>1", "y:s>1;y:2", "y:s>1)", "y:s>1>2?1", "y:[s]?");
        faults(1, 6, "y:s>1?", "y:(s>1", "y:(s>1?1", "y:(s>1]", "y:s>1|", "y:s>1&?1", "y:12345", "y:s>1??");
        faults(1, 6, "y:99990", "y:00001", "y:123456789");
        faults(1, 7, "y:s>1?1?2", "y:s>1?1|", "y:(s>1)", "y:(s>1);", "y:(s>1)>1?2", "y:s>1?1=1");
        // the seventh of ( [ ! within one another
        faults(1, 8, "y:!!!!!!!s=1?1", "y:[[[[[[[1]]]]]]]", "y:(((((((s=1", "y:!(!(!((1=1", "y:!!!!!![1]=1?1");
        faults(1, 8, "y:(((![[[1]]]", "y:!!!!!!(");
        faults(1, NONE, "y:!!!!!s=[1]&[[[[[[1]]]]]]=1?[[[[[[1]]]]]]", "y:!!!s=1&!!!!!!s=1|((((((s=1))))))?1");
        faults(1, 14, "y:[1]+[1];y:s=", "y:[1]+[1]*[1]>");
    }

    private static void texts() {
        says("promise 5");
        SaddlerKnows x = new SaddlerKnows();
        due("text of no such sort", tell(x, "p;p", 2), NONE);
        due("count(3): the tape stays", x.count(3), 3);
        due("text(1) of a county", x.text(1), NONE);
        due("count(3)", x.count(3), 3);
        due("text(0)", x.text(0), 2);
        due("count(3): the tape is empty", x.count(3), 0);
        due("text(0) of nothing", x.text(0), NONE);
        due("count(0): the county stays", x.count(0), 2);
        for (int law = 0; law < 4; law++) {
            due("text(1)", tell(x, "y:" + law, 1), law);
            due("count(4): a new law does not hold", x.count(4), NONE);
        }
        due("text(1): there are four", tell(x, "y:9", 1), NONE);
        due("count(3)", x.count(3), 3);

        x = county(THREE);
        tell(x, "y:7", 1);
        x.law(0);
        x.rest(5);
        x.makes(0, 0, 0);
        x.seen(0, 1, 1, true);
        x.image();
        x.weeks(4);
        due("text(0) of the next one", tell(x, "sh1;pt9;p;p;lr1u0", 0), 3);
        int[] counts = {3, 1, 1, 0, 0, 0, 1, 5, 0, 0, 0};
        for (int what = 0; what < counts.length; what++) {
            due("count(" + what + ")", x.count(what), counts[what]);
        }
        due("back(): no image of this one", x.back(), NONE);
        due("undo()", x.undo(), NONE);
        due("log(0, 1)", x.log(0, 1), NONE);
        due("status(1) stays", x.status(1), 1);
        due("rule(0)", x.rule(0), 1);
        due("rule(1)", x.rule(1), 20);
        for (int p = 0; p < 3; p++) {
            due("person(" + p + ", 3): no gall", person(x, p, 3), 0);
        }
        for (int at = 1; at < 8; at++) {
            due("saddle(" + at + ", 0)", x.saddle(at, 0), NONE);
        }
        due("saddle(0, 3): the law holds", x.saddle(0, 3), 7);
    }

    private static void worth(int want, String law) {
        // s 7, b 5, f 3, t 2; gall 11 and week 1 behind a week of 11
        SaddlerKnows x = county("ps7;pb5t2;lf3", "y:w=0?11;" + law);
        x.weeks(1);
        due("the pinch by " + law, x.saddle(0, 3), want);
    }

    private static void lawWorths() {
        says("promise 8");
        worth(7, "y:s");
        worth(5, "y:b");
        worth(3, "y:f");
        worth(2, "y:t");
        worth(11, "y:g");
        worth(1, "y:w");
        worth(0, "y:w-g");
        worth(30, "y:31");
        worth(30, "y:30");
        worth(29, "y:29");
        worth(0, "y:1/0");
        worth(0, "y:0/0");
        worth(3, "y:7/2");
        worth(13, "y:10-[0-7]/2");
        worth(7, "y:10-[7]/2");
        worth(1, "y:9-5-3");
        worth(2, "y:8/2/2");
        worth(14, "y:2+3*4");
        worth(20, "y:[2+3]*4");
        worth(6, "y:9999*9999/9999-94");
        worth(0, "y:9999*9999-1000*1000");
        worth(1, "y:[9999*9999]-9999*100-99");
        worth(2, "y:[0-9999*9999]+1000*1000+2");
        worth(5, "y:9999*9999+1-1000*1000+5");
        worth(3, "y:s>7?1;y:s<7?2;y:s=7?3;y:4");
        worth(4, "y:s>7?1;y:4");
        worth(0, "y:s>7?1;y:s<7?1");
        worth(5, "y:!s>7?5");
        worth(6, "y:s=1&s=1|s=7?6");
        worth(0, "y:s=1&[s]=1|s=7&s=1?6");
        worth(6, "y:s=7|s=1&s=1?6");
        worth(0, "y:(s=7|s=1)&s=1?6");
        worth(0, "y:!(s=1|s=7)?6");
        worth(6, "y:!(s=1)&s=7?6");
        worth(6, "y:!s=1&s=7?6");
        worth(6, "y:!!(b<s)?6");
        worth(8, "y:1+2>2*1?8");
        worth(9, "y:s=0|s=7&(s=0|s=7&(s=0|s=7&[1+1*[1+1*[1+1*1]]]=4))?9");
        due("a law of 240 bytes", county("p;p;l", "y:" + "0+".repeat(118) + "12").saddle(0, 3), 12);
        due("a law of thirty clauses", county("p;p;l", "y:s=0?1;".repeat(29) + "y:7;y:08").saddle(0, 3), 7);
        SaddlerKnows x = county("pt9;pt9b0;lf0", "y:w-[w/10]*10/1-9");
        due("weeks(60)", x.weeks(60), 60);
        due("weeks(39)", x.weeks(39), 99);
        tell(x, "y:w/4", 1);
        x.law(1);
        due("pinch in week 99", x.pinch(0, 1, 0), 24);
        x.weeks(1);
        due("pinch in week 100", x.pinch(0, 1, 0), 0);
    }

    private static void rules() {
        says("promise 6");
        SaddlerKnows x = county("sh0k99;p;p");
        due("rule(0)", x.rule(0), 0);
        due("rule(1)", x.rule(1), 99);
        due("rule(2)", x.rule(2), NONE);
        due("rule(-1)", x.rule(-1), NONE);
        x.makes(0, 1, 1);
        due("rule(1) now", x.rule(1), 96);
        x = county("p;p");
        due("rule(0) without", x.rule(0), 2);
        due("rule(1) without", x.rule(1), 20);
        x = county("sk7;p;p");
        due("rule(0) without", x.rule(0), 2);
        due("rule(1)", x.rule(1), 7);
    }

    private static void persons() {
        says("promise 7");
        SaddlerKnows x = county(THREE);
        int[][] told = {{6, 5, 2, 0, 0, 6}, {4, 7, 9, 0, 3, 6}, {2, 3, 0, 0, 3, 6}};
        for (int p = 0; p < 3; p++) {
            for (int what = 0; what < 6; what++) {
                due("person(" + p + ", " + what + ")", person(x, p, what), told[p][what]);
            }
        }
        for (int far : FAR) {
            due("person(" + far + ", 0)", person(x, far, 0), NO_SUCH);
            due("person(0, " + far + ")", person(x, 0, far), NO_SUCH);
        }
        due("person(3, 0)", person(x, 3, 0), NO_SUCH);
        x.weeks(2);
        due("person(1, 3)", person(x, 1, 3), 6);
        due("person(0, 3)", person(x, 0, 3), 0);
        x.off(2);
        due("person(1, 5)", person(x, 1, 5), 0);
        due("person(0, 5)", person(x, 0, 5), 2);
        due("person(2, 4)", person(x, 2, 4), 0);
        x = county("p;ps9;ps8b7t6");
        due("person(0, 0) without", person(x, 0, 0), 4);
        due("person(0, 1) without", person(x, 0, 1), 4);
        due("person(1, 1) without", person(x, 1, 1), 4);
        due("person(0, 2) without", person(x, 0, 2), 3);
        x = county("p;pb0t0;p;p;p;p;lf9;lr2f9;lr3f9;lr4f9;lr5f9", "y:30");
        due("person(1, 4): not held", person(x, 1, 4), 150);
    }

    private static void saddles() {
        says("promise 8");
        SaddlerKnows x = county(THREE);
        int[][] told = {{0, 1, 6, 3}, {2, 1, 7, 0}, {1, 2, 1, 3}};
        for (int at = 0; at < 3; at++) {
            for (int what = 0; what < 4; what++) {
                due("saddle(" + at + ", " + what + ")", x.saddle(at, what), told[at][what]);
            }
        }
        due("saddle(3, 0)", x.saddle(3, 0), NONE);
        due("saddle(0, 4)", x.saddle(0, 4), NONE);
        due("saddle(0, -1)", x.saddle(0, -1), NONE);
        due("saddle(-1, 0)", x.saddle(-1, 0), NONE);
        due("saddle(8, 0)", x.saddle(8, 0), NONE);
        due("saddle(MAX, 0)", x.saddle(Integer.MAX_VALUE, 0), NONE);
        x.off(1);
        due("saddle(1, 0)", x.saddle(1, 0), NONE);
        due("saddle(2, 0)", x.saddle(2, 0), 1);
        x = county("l;p;p");
        due("saddle(0, 0) without", x.saddle(0, 0), 0);
        due("saddle(0, 1) without", x.saddle(0, 1), 1);
        due("saddle(0, 2) without", x.saddle(0, 2), 5);
        due("saddle(0, 3): 1 apart and 4 by 3", x.saddle(0, 3), 2);
        x = county("ps9;pb0;lf9");
        due("saddle(0, 3): 9 apart and 3", x.saddle(0, 3), 12);
    }

    private static void lawsThatHold() {
        says("promise 9");
        SaddlerKnows x = county("p;pb4;lf4");
        due("law(0)", x.law(0), false);
        due("law(-1)", x.law(-1), true);
        tell(x, "y:3", 1);
        tell(x, "y:4", 1);
        due("saddle(0, 3) by none", x.saddle(0, 3), 1);
        due("law(0)", x.law(0), true);
        due("law(0) again", x.law(0), true);
        due("saddle(0, 3)", x.saddle(0, 3), 3);
        due("law(1)", x.law(1), true);
        due("saddle(0, 3)", x.saddle(0, 3), 4);
        due("law(2)", x.law(2), false);
        due("law(-2)", x.law(-2), false);
        due("count(4)", x.count(4), 1);
        due("law(-1)", x.law(-1), true);
        due("count(4)", x.count(4), NONE);
        due("saddle(0, 3)", x.saddle(0, 3), 1);
        due("count(10): no act", x.count(10), 0);
    }

    private static void weeksGoing() {
        says("promise 10");
        SaddlerKnows x = county(THREE);
        due("weeks(0)", x.weeks(0), NONE);
        due("weeks(61)", x.weeks(61), NONE);
        due("weeks(-1)", x.weeks(-1), NONE);
        due("weeks(1)", x.weeks(1), 1);
        due("person(1, 3)", person(x, 1, 3), 3);
        due("person(2, 3)", person(x, 2, 3), 3);
        due("rule(1): one for each saddle", x.rule(1), 33);
        x.off(2);
        x.weeks(1);
        due("person(2, 3) heals", person(x, 2, 3), 0);
        x.weeks(1);
        due("person(2, 3): 0 at least", person(x, 2, 3), 0);
        due("person(1, 3)", person(x, 1, 3), 9);
        due("rule(1)", x.rule(1), 37);
        due("status(1)", x.status(1), 3);

        x = county("sk0;p;p");
        for (int k = 1; k <= 16; k++) {
            due("weeks(60)", x.weeks(60), 60 * k);
        }
        due("weeks(40) beyond 999", x.weeks(40), NONE);
        due("count(5): none goes by", x.count(5), 960);
        due("weeks(39)", x.weeks(39), 999);
        due("weeks(1) beyond 999", x.weeks(1), NONE);
        due("years(1, 1) beyond 999", x.years(1, 1), NONE);
        due("status(4)", x.status(4), 2);

        x = county("sk99;pt0;pt0;l;lr1u0", "y:0");
        for (int k = 1; k <= 15; k++) {
            x.weeks(60);
        }
        due("rule(1): 999 at most", x.rule(1), 999);
    }

    private static void weeksThrowing() {
        says("promise 10");
        // 4 a week on 1 by two saddles, who throws at 12; each by his gall as the week began
        SaddlerKnows x = county("sh2;ps6;pb5t9;ps0;lf5;lr2f7;lr1u0f4");
        x.weeks(2);
        due("person(1, 3)", person(x, 1, 3), 8);
        due("count(6)", x.count(6), 3);
        due("rule(1)", x.rule(1), 26);
        x.weeks(1);
        due("person(1, 3): 12 is the limit, half of it", person(x, 1, 3), 6);
        due("saddle(0, 0) is gone", x.saddle(0, 0), NONE);
        due("saddle(1, 0) is gone", x.saddle(1, 0), NONE);
        due("saddle(2, 0) stays", x.saddle(2, 0), 1);
        due("rule(1): those there are then", x.rule(1), 27);
        due("log(0, 0)", x.log(0, 0), 2);
        due("log(0, 1)", x.log(0, 1), 6 + 3);
        due("log(0, 2)", x.log(0, 2), 1);
        x.weeks(1);
        due("person(1, 3) heals", person(x, 1, 3), 4);
        x = county("p;pt9;p;l;lr2", "y:g=0?5;y:g");
        x.weeks(1);
        due("person(1, 3): both by a gall of 0", person(x, 1, 3), 10);
        x.weeks(1);
        due("person(1, 3): 30, half of it", person(x, 1, 3), 15);
        x = county("p;pt0;p;p;p;p;l;lr2;lr3;lr4;lr5", "y:w<1?5;y:30");
        x.weeks(2);
        due("person(1, 3): 25 and 150, 99 at most, half of it", person(x, 1, 3), 49);
        x.makes(0, 1, 1);
        tell(x, "y:0", 1);
        x.law(1);
        x.weeks(1);
        due("person(1, 3): above the limit still, who bears one throws", person(x, 1, 3), 24);
    }

    private static void making() {
        says("promise 11");
        SaddlerKnows x = county("sk9;p;p;p;lr0u1f3;lr1u0");
        due("makes(0, 3, 0)", x.makes(0, 3, 0), NONE);
        due("makes(-1, -1, 0)", x.makes(-1, -1, 0), NONE);
        due("status(0)", x.status(0), 2);
        due("makes(1, 1, 0)", x.makes(1, 1, 0), NONE);
        due("makes(0, 1, 10)", x.makes(0, 1, 10), NONE);
        due("makes(0, 1, -1)", x.makes(0, 1, -1), NONE);
        due("status(1)", x.status(1), 3);
        due("makes(0, 1, 4)", x.makes(0, 1, 4), NONE);
        due("status(2)", x.status(2), 1);
        due("makes(0, 2, 9)", x.makes(0, 2, 9), 2);
        due("saddle(2, 2)", x.saddle(2, 2), 9);
        due("saddle(2, 1)", x.saddle(2, 1), 2);
        due("rule(1)", x.rule(1), 6);
        x.off(0);
        due("makes(2, 0, 0): the lowest place", x.makes(2, 0, 0), 0);
        due("makes(2, 1, 0)", x.makes(2, 1, 0), 3);
        due("rule(1)", x.rule(1), 0);
        due("makes(0, 1, 0): too few coins", x.makes(0, 1, 0), NONE);
        due("status(3)", x.status(3), 1);
        x = county("sk99;p;p;p;p;l;lu2;lu3;lr1u0;lr1u2;lr1u3;lr2u0;lr2u1");
        due("makes(2, 3, 0): no place", x.makes(2, 3, 0), NONE);
        due("status(3)", x.status(3), 1);
        due("rule(1)", x.rule(1), 99);
        due("makes(2, 1, 0): he has one there", x.makes(2, 1, 0), NONE);
        due("status(2)", x.status(2), 1);
        x.off(5);
        due("makes(2, 3, 0)", x.makes(2, 3, 0), 5);
    }

    private static void stitching() {
        says("promise 12");
        SaddlerKnows x = county("sk9;p;p;lf2");
        due("stitch(1, 5)", x.stitch(1, 5), NONE);
        due("stitch(-1, 99)", x.stitch(-1, 99), NONE);
        due("stitch(8, 5)", x.stitch(8, 5), NONE);
        due("status(0)", x.status(0), 3);
        due("stitch(0, 10)", x.stitch(0, 10), NONE);
        due("stitch(0, -1)", x.stitch(0, -1), NONE);
        due("status(1)", x.status(1), 2);
        due("stitch(0, 2)", x.stitch(0, 2), NONE);
        due("status(2)", x.status(2), 1);
        due("stitch(0, 7)", x.stitch(0, 7), 2);
        due("rule(1)", x.rule(1), 4);
        due("stitch(0, 2): too few coins", x.stitch(0, 2), NONE);
        due("status(3)", x.status(3), 1);
        due("saddle(0, 2)", x.saddle(0, 2), 7);
        due("stitch(0, 3)", x.stitch(0, 3), 7);
        due("rule(1)", x.rule(1), 0);
        due("count(10)", x.count(10), 2);
    }

    private static void takingOff() {
        says("promise 13");
        SaddlerKnows x = county(THREE);
        due("off(3)", x.off(3), NONE);
        due("off(-1)", x.off(-1), NONE);
        due("off(8)", x.off(8), NONE);
        due("status(0)", x.status(0), 3);
        due("off(0)", x.off(0), 2);
        due("off(0) again", x.off(0), NONE);
        due("off(2)", x.off(2), 1);
        due("off(1)", x.off(1), 0);
        due("rule(1): for nothing", x.rule(1), 30);
        due("count(10)", x.count(10), 3);
    }

    private static void salving() {
        says("promise 14");
        SaddlerKnows x = county("sk5;p;pt0;lf9", "y:8");
        due("salve(2)", x.salve(2), NONE);
        due("salve(-1)", x.salve(-1), NONE);
        due("status(0)", x.status(0), 2);
        due("salve(1): no gall", x.salve(1), NONE);
        due("status(2)", x.status(2), 1);
        x.weeks(1);
        due("salve(1)", x.salve(1), 3);
        due("rule(1)", x.rule(1), 4);
        due("salve(1): 0 at least", x.salve(1), 0);
        due("person(1, 3)", person(x, 1, 3), 0);
        x.weeks(1);
        x.makes(1, 0, 0);
        due("rule(1)", x.rule(1), 0);
        due("salve(1): too few coins", x.salve(1), NONE);
        due("status(3)", x.status(3), 1);
        due("person(1, 3)", person(x, 1, 3), 8);
        x.give(2);
        due("salve(1)", x.salve(1), 3);
    }

    private static void giving() {
        says("promise 15");
        SaddlerKnows x = new SaddlerKnows();
        due("give(1): no county", x.give(1), NONE);
        due("give(0): no county", x.give(0), NONE);
        due("status(0)", x.status(0), 2);
        tell(x, "sk49;p;p", 0);
        due("give(0)", x.give(0), NONE);
        due("give(51)", x.give(51), NONE);
        due("give(MIN)", x.give(Integer.MIN_VALUE), NONE);
        due("give(MAX)", x.give(Integer.MAX_VALUE), NONE);
        due("status(1)", x.status(1), 4);
        for (int k = 1; k <= 19; k++) {
            due("give(50)", x.give(50), 49 + 50 * k);
        }
        due("give(1): above 999", x.give(1), NONE);
        due("status(1)", x.status(1), 5);
        due("rule(1)", x.rule(1), 999);
        x.undo();
        due("give(49)", x.give(49), 998);
        due("give(2): above 999", x.give(2), NONE);
        due("give(1)", x.give(1), 999);
    }

    private static void resting() {
        says("promise 16");
        SaddlerKnows x = new SaddlerKnows();
        due("rest(2): it is so", x.rest(2), false);
        due("rest(9)", x.rest(9), true);
        due("rest(9) again", x.rest(9), false);
        due("rest(10)", x.rest(10), false);
        due("rest(-1)", x.rest(-1), false);
        due("rest(0)", x.rest(0), true);
        due("count(7)", x.count(7), 0);
        due("status(1): none", x.status(1), 0);
    }

    private static void yearsByDraws() {
        says("promise 17");
        SaddlerKnows x = county("sk0;p;p;p");
        due("years(0, 1)", x.years(0, 1), NONE);
        due("years(61, 1)", x.years(61, 1), NONE);
        due("years(-5, 1)", x.years(-5, 1), NONE);
        for (int what = 0; what < 5; what++) {
            due("status(" + what + "): none", x.status(what), 0);
        }
        // the draws are reckoned apart, with numbers as long as they come
        long[] draw = {5};
        int one = drawn(draw, 3);
        int other = drawn(draw, 3);
        int fit = drawn(draw, 10);
        int off = drawn(draw, 10) < 2 ? drawn(draw, 8) : 8;
        boolean there = one != other && off != 0;
        due("years(1, 5)", x.years(1, 5), 1);
        due("saddle(0, 0)", x.saddle(0, 0), there ? one : NONE);
        due("saddle(0, 1)", x.saddle(0, 1), there ? other : NONE);
        due("saddle(0, 2)", x.saddle(0, 2), there ? fit : NONE);
        due("rule(1): made for nothing", x.rule(1), there ? 1 : 0);
        due("count(10): one act", x.count(10), 1);
        due("undo()", x.undo(), 0);
        due("count(6)", x.count(6), 0);
        due("count(5)", x.count(5), 0);
        for (int k = 0; k < 16; k++) {
            due("years(60, 1)", x.years(60, 1), 60 * k + 60);
        }
        due("years(40, 1): beyond 999", x.years(40, 1), NONE);
        due("years(39, 1)", x.years(39, 1), 999);
        for (long seed = -20; seed < 20; seed++) {
            yearOf(seed * 1234567890123L, 5);
        }
    }

    private static int drawn(long[] x, int j) {
        x[0] = new java.math.BigInteger(Long.toString(x[0])).multiply(new java.math.BigInteger("6364136223846793005"))
            .add(new java.math.BigInteger("1442695040888963407")).longValue();
        return (int) Long.remainderUnsigned(x[0] >>> 33, j);
    }

    /** Saddles that pinch nobody: what is there is by the draws alone. */
    private static void yearOf(long seed, int below) {
        SaddlerKnows x = county("sk0;p;p;p;p", "y:0");
        x.rest(below);
        int[][] there = new int[8][];
        long[] draw = {seed};
        int coins = 0;
        for (int week = 0; week < 30; week++) {
            int[] saddle = {drawn(draw, 4), drawn(draw, 4), drawn(draw, 10)};
            boolean can = saddle[0] != saddle[1];
            for (int[] other : there) {
                can &= other == null || other[0] != saddle[0] || other[1] != saddle[1];
            }
            for (int k = 0; k < 8 && can; k++) {
                if (there[k] == null) {
                    there[k] = saddle;
                    can = false;
                }
            }
            if (drawn(draw, 10) < below) {
                there[drawn(draw, 8)] = null;
            }
            for (int[] other : there) {
                coins += other == null ? 0 : 1;
            }
        }
        due("years(30, " + seed + ")", x.years(30, seed), 30);
        for (int k = 0; k < 8; k++) {
            for (int what = 0; what < 3; what++) {
                due("saddle(" + k + ", " + what + ")", x.saddle(k, what), there[k] == null ? NONE : there[k][what]);
            }
        }
        due("rule(1)", x.rule(1), coins);
        due("count(10)", x.count(10), 30);
    }

    private static void statuses() {
        says("promise 18");
        SaddlerKnows x = new SaddlerKnows();
        for (int what = 0; what < 5; what++) {
            due("status(" + what + ")", x.status(what), 0);
        }
        due("status(5)", x.status(5), NONE);
        due("status(-1)", x.status(-1), NONE);
        x.weeks(0);
        x.makes(0, 0, 99);
        x.stitch(0, 99);
        x.off(0);
        x.salve(0);
        x.give(0);
        due("status(0): the first of several", x.status(0), 6);
        tell(x, "sk0;p;p;l", 0);
        x.makes(0, 1, 10);
        x.makes(0, 1, 9);
        x.makes(1, 0, 9);
        x.stitch(0, 10);
        x.stitch(0, 5);
        x.stitch(0, 6);
        x.salve(1);
        int[] then = {6, 2, 3, 2, 0};
        for (int what = 0; what < 5; what++) {
            due("status(" + what + ")", x.status(what), then[what]);
        }
        // what is refused and no act is not counted
        x.undo();
        x.back();
        x.years(0, 0);
        x.rest(10);
        x.law(7);
        x.end(300);
        x.text(0);
        x.seen(7, 0, 0, true);
        person(x, 9, 9);
        x.give(1);
        x.undo();
        for (int what = 0; what < 5; what++) {
            due("status(" + what + ")", x.status(what), then[what]);
        }
    }

    private static void undoing() {
        says("promise 19");
        SaddlerKnows x = county("sk20;ps0;pt9b0;lf5");
        x.weeks(1);
        x.makes(1, 0, 3);
        x.stitch(0, 7);
        x.give(9);
        x.salve(1);
        x.weeks(2);
        due("saddle(0, 0): thrown", x.saddle(0, 0), NONE);
        due("count(10)", x.count(10), 7);
        due("undo()", x.undo(), 6);
        due("saddle(0, 0)", x.saddle(0, 0), 0);
        due("person(1, 3)", person(x, 1, 3), 7);
        due("count(9)", x.count(9), 2);
        due("log(0, 0)", x.log(0, 0), 0);
        due("undo()", x.undo(), 5);
        due("undo(): the salve", x.undo(), 4);
        due("person(1, 3)", person(x, 1, 3), 5);
        due("rule(1)", x.rule(1), 25);
        due("undo(): the coins", x.undo(), 3);
        due("rule(1)", x.rule(1), 16);
        due("undo(): the stitching", x.undo(), 2);
        due("saddle(0, 2)", x.saddle(0, 2), 5);
        due("undo(): the making", x.undo(), 1);
        due("saddle(1, 0)", x.saddle(1, 0), NONE);
        due("undo(): the week", x.undo(), 0);
        due("count(5)", x.count(5), 0);
        due("log(0, 0)", x.log(0, 0), NONE);
        due("undo(): none", x.undo(), NONE);
        x.off(0);
        due("undo(): the taking off", x.undo(), 0);
        due("saddle(0, 2)", x.saddle(0, 2), 5);

        x = county("sh1k0;p;p");
        for (int k = 0; k < 45; k++) {
            x.give(k % 20 + 1);
        }
        int coins = x.rule(1);
        due("count(10): the latest 40", x.count(10), 40);
        for (int k = 44; k >= 5; k--) {
            due("undo()", x.undo(), k - 5);
            coins -= k % 20 + 1;
            due("rule(1)", x.rule(1), coins);
        }
        due("undo()", x.undo(), NONE);
        due("rule(1)", x.rule(1), 15);

        x = county("p;p;l", "y:w=0?1;y:0");
        x.weeks(50);
        due("log(49, 1)", x.log(49, 1), 1);
        x.weeks(50);
        for (int k = 39; k >= 0; k--) {
            due("undo()", x.undo(), k);
        }
        due("count(5)", x.count(5), 60);
        due("count(9)", x.count(9), 60);
        due("log(59, 2): the eldest is back", x.log(59, 2), 1);
        x.law(NONE);
        x.seen(0, 1, 1, true);
        x.rest(7);
        due("undo() touches none of these", x.undo(), NONE);
    }

    private static void logging() {
        says("promise 20");
        SaddlerKnows x = county("sh2;ps6;pb5t9;ps0;lf5;lr2f7;lr1u0f4");
        due("log(0, 0)", x.log(0, 0), NONE);
        x.weeks(3);
        int[][] want = {{2, 9, 1}, {0, 10, 3}, {0, 5, 3}};
        for (int i = 0; i < 3; i++) {
            for (int what = 0; what < 3; what++) {
                due("log(" + i + ", " + what + ")", x.log(i, what), want[i][what]);
            }
        }
        due("log(3, 0)", x.log(3, 0), NONE);
        due("log(0, 3)", x.log(0, 3), NONE);
        due("log(0, -1)", x.log(0, -1), NONE);
        due("log(-1, 0)", x.log(-1, 0), NONE);
        due("log(MAX, 0)", x.log(Integer.MAX_VALUE, 0), NONE);
        x.weeks(60);
        due("count(9): the latest 60", x.count(9), 60);
        due("log(59, 2)", x.log(59, 2), x.log(59, 0) == 0 ? 1 : 0);
        due("log(60, 2)", x.log(60, 2), NONE);
    }

    private static void limits() {
        says("promise 21");
        SaddlerKnows x = county("pt0;pt9;p");
        due("limit(0)", x.limit(0), 30);
        due("limit(1)", x.limit(1), 12);
        due("limit(2)", x.limit(2), 24);
        for (int far : FAR) {
            due("limit(" + far + ")", x.limit(far), NONE);
        }
        due("limit(3)", x.limit(3), NONE);
    }

    private static void pinches() {
        says("promise 22");
        SaddlerKnows x = county(THREE);
        due("pinch(0, 1, 0)", x.pinch(0, 1, 0), 9);
        due("pinch(1, 0, 5)", x.pinch(1, 0, 5), 1);
        due("pinch(2, 0, 9)", x.pinch(2, 0, 9), 4);
        due("pinch(0, 0, 1)", x.pinch(0, 0, 1), NONE);
        due("pinch(0, 1, 10)", x.pinch(0, 1, 10), NONE);
        due("pinch(0, 1, -1)", x.pinch(0, 1, -1), NONE);
        due("pinch(0, 3, 1)", x.pinch(0, 3, 1), NONE);
        due("pinch(-1, 0, 1)", x.pinch(-1, 0, 1), NONE);
        tell(x, "y:s*100+b*10+f-640", 1);
        x.law(0);
        due("pinch(0, 1, 5): 600 and 70 and 5", x.pinch(0, 1, 5), 30);
        due("pinch(0, 2, 9)", x.pinch(0, 2, 9), 0);
        due("pinch(0, 2, 1)", x.pinch(0, 2, 1), 0);
        tell(x, "y:t+g", 1);
        x.law(1);
        x.weeks(1);
        due("pinch(0, 1, 1): temper 9, gall 18 halved", x.pinch(0, 1, 1), 18);
        due("pinch(1, 2, 1)", x.pinch(1, 2, 1), 0);
        due("status(1): none", x.status(1), 0);
    }

    private static void bests() {
        says("promise 23");
        SaddlerKnows x = county(THREE);
        due("best(0, 0)", x.best(0, 0), 7);
        due("best(0, 1)", x.best(0, 1), 2);
        due("best(2, 0)", x.best(2, 0), 3);
        due("best(2, 1)", x.best(2, 1), 1);
        due("best(3, 0)", x.best(3, 0), NONE);
        due("best(-1, 0)", x.best(-1, 0), NONE);
        due("best(0, 2)", x.best(0, 2), NONE);
        due("best(0, -1)", x.best(0, -1), NONE);
        x = county("p;p;lf9", "y:f=4|f=7?3;y:9-f+3");
        due("best(0, 0): of several the lowest", x.best(0, 0), 4);
        due("best(0, 1)", x.best(0, 1), 3);
        x = county("p;p;lf9", "y:30-f");
        due("best(0, 0)", x.best(0, 0), 9);
        due("best(0, 1)", x.best(0, 1), 21);
        due("saddle(0, 2) stays", x.saddle(0, 2), 9);
    }

    private static void throwings() {
        says("promise 24");
        SaddlerKnows x = county(THREE);
        due("throwing(0): he bears none", x.throwing(0), NONE);
        due("throwing(1): 3 a week to 12", x.throwing(1), 4);
        due("throwing(2): 3 a week to 30", x.throwing(2), 10);
        due("throwing(3)", x.throwing(3), NONE);
        due("throwing(-1)", x.throwing(-1), NONE);
        x.weeks(3);
        due("throwing(1)", x.throwing(1), 1);
        due("throwing(2)", x.throwing(2), 7);
        due("count(5): nothing done", x.count(5), 3);
        x = county("p;pt0;l", "y:w=98?30;y:0");
        due("throwing(1): the 99th week", x.throwing(1), 99);
        x = county("p;pt0;l", "y:w=99?30;y:0");
        due("throwing(1): not within 99", x.throwing(1), NONE);
        x.weeks(1);
        due("throwing(1)", x.throwing(1), 99);
        x = county("p;pt0;lf4", "y:w=0?30;y:0");
        x.off(0);
        for (int k = 0; k < 16; k++) {
            x.weeks(60);
        }
        x.weeks(39);
        x.makes(0, 1, 0);
        due("throwing(1): weeks go on behind 999", x.throwing(1), 2);
    }

    private static void bearings() {
        says("promise 25");
        SaddlerKnows x = county("sh3k0;ps6b2t9;pb7t0;ps0b5t5;lf4;lr1u2f1;lr2u0f2;lr2f9");
        due("bears(1, 4, 0): he does not anyhow", x.bears(1, 4, 0), 0);
        due("bears(1, 4, 1)", x.bears(1, 4, 1), 49);
        due("bears(1, 5, 0): 7 a week are 2 too many", x.bears(1, 5, 0), 2);
        due("bears(1, 5, 1): 47 and not 69", x.bears(1, 5, 1), 47);
        due("bears(1, 9, 0): 3 a week", x.bears(1, 9, 0), 4);
        due("bears(1, 9, 1): 57, 48 would be 1", x.bears(1, 9, 1), 67);
        due("bears(1, 14, 0): both to 7", x.bears(1, 14, 0), 5);
        due("bears(1, 14, 1)", x.bears(1, 14, 1), 77);
        due("bears(1, 15, 0): by none", x.bears(1, 15, 0), NONE);
        due("bears(1, 15, 1)", x.bears(1, 15, 1), NONE);
        due("bears(0, 30, 0)", x.bears(0, 30, 0), 0);
        due("bears(0, 30, 1)", x.bears(0, 30, 1), 2);
        due("bears(2, 30, 0)", x.bears(2, 30, 0), NONE);
        due("bears(0, 0, 0)", x.bears(0, 0, 0), NONE);
        due("bears(0, 31, 0)", x.bears(0, 31, 0), NONE);
        due("bears(3, 1, 0)", x.bears(3, 1, 0), NONE);
        due("bears(-1, 1, 0)", x.bears(-1, 1, 0), NONE);
        due("bears(0, 1, 2)", x.bears(0, 1, 2), NONE);
        due("bears(0, 1, -1)", x.bears(0, 1, -1), NONE);
        due("saddle(0, 2) stays", x.saddle(0, 2), 4);
        x.off(2);
        due("bears(0, 30, 0): he bears none", x.bears(0, 30, 0), 0);
        due("bears(0, 30, 1)", x.bears(0, 30, 1), NONE);

        // three on 1: each pinches 1 as long as its fit is not 0; two may be stitched
        x = county("p;pt0;p;p;lf1;lr2f2;lr3f1", "y:f=0?0;y:1");
        due("bears(1, 9, 0)", x.bears(1, 9, 0), 0);
        due("bears(1, 9, 1)", x.bears(1, 9, 1), 121);
        due("bears(1, 10, 0): one of them", x.bears(1, 10, 0), 1);
        due("bears(1, 10, 1): the least number", x.bears(1, 10, 1), 21);
        due("bears(1, 14, 0)", x.bears(1, 14, 0), 1);
        due("bears(1, 15, 0): two of them", x.bears(1, 15, 0), 2);
        due("bears(1, 15, 1)", x.bears(1, 15, 1), 20);
        due("bears(1, 29, 0)", x.bears(1, 29, 0), 2);
        due("bears(1, 30, 0): three would be needed", x.bears(1, 30, 0), NONE);
        x = county("p;p;p;p;lf0;lr2f0;lr0u2", "y:f=9?0;y:30");
        due("bears(1, 30, 0): both, beside one another, by 9", x.bears(1, 30, 0), 18);
        due("bears(1, 30, 1)", x.bears(1, 30, 1), 99);
        x = county("p;pt0;p;lf5;lr2", "y:f=4|f=6?0;y:30");
        due("bears(1, 9, 0)", x.bears(1, 9, 0), 2);
        due("bears(1, 9, 1): of 44, 46, 64 and 66", x.bears(1, 9, 1), 44);
        x.weeks(1);
        x.makes(0, 1, 4);
        due("bears(1, 1, 1): half of 60 is at the limit still", x.bears(1, 1, 1), NONE);
    }

    private static void ringsAndChains() {
        says("promise 26");
        SaddlerKnows x = county("p;p;p;p;p;p;lr0u1;lr1u2;lr2u3;lr3u4;lr4u5;lr5u0");
        due("ring() of six", x.ring(), 6);
        x.makes(3, 1, 0);
        due("ring() of three", x.ring(), 3);
        x.makes(2, 1, 0);
        due("ring() of two", x.ring(), 2);
        x.off(7);
        x.off(6);
        says("promise 27");
        due("chain(0, 5)", x.chain(0, 5), 5);
        due("chain(5, 0)", x.chain(5, 0), 1);
        due("chain(3, 3)", x.chain(3, 3), 0);
        due("chain(3, 2)", x.chain(3, 2), 5);
        due("chain(6, 0)", x.chain(6, 0), NONE);
        due("chain(0, -1)", x.chain(0, -1), NONE);
        due("chain(7, 7)", x.chain(7, 7), NONE);
        x.off(5);
        due("chain(5, 0): by none", x.chain(5, 0), NONE);
        due("chain(0, 5)", x.chain(0, 5), 5);
        says("promise 26");
        due("ring(): none", x.ring(), NONE);
        says("promise 7");
        due("person(0, 5)", person(x, 0, 5), 62);
        due("person(5, 5)", person(x, 5, 5), 0);
    }

    private static void seating() {
        says("promise 28");
        SaddlerKnows x = county("p;p");
        due("seats(0)", x.seats(0), 10);
        due("seats(1): 1 and 1", x.seats(1), 2);
        due("seats(2)", x.seats(2), NONE);
        due("seats(-1)", x.seats(-1), NONE);
        x = county("p;p;p");
        due("seats(0): of 120 and 201 the least", x.seats(0), 120);
        // whoever sits on who has breadth 9 pinches nothing if he is weak
        x = county("ps9b1;ps1b2;ps2b9", "y:b=9&s=1?0;y:b=1&s=2?0;y:b=2&s=9?0;y:7");
        due("seats(0)", x.seats(0), 120);
        due("seats(1)", x.seats(1), 0);
        x = county("ps9b1;ps1b2;ps2b9", "y:b=9&s=9?0;y:b=1&s=1?0;y:b=2&s=2?3;y:7");
        due("seats(0)", x.seats(0), 201);
        due("seats(1)", x.seats(1), 3);
        x = county("p;p;p;p", "y:f=3?2;y:9");
        due("seats(0)", x.seats(0), 1032);
        due("seats(1): each in the best fit", x.seats(1), 8);
        x = county("p;pt0;l", "y:g");
        due("seats(1) now", x.seats(1), 0);
        tell(x, "y:5", 1);
        x.law(1);
        x.weeks(1);
        x.law(0);
        due("seats(1) now", x.seats(1), 5);
        x = county("sk9;ps9b0t9;ps0b9t0;p;ps5b5t5;ps7t2;pb8t8");
        due("seats(0) of six", x.seats(0), 103254);
    }

    private static void seeing() {
        says("promise 29");
        SaddlerKnows x = county("sh3;ps6b2t9;pb7t0;ps0b5t5;lf4;lr1u2f1;lr2u0f2;lr2f9");
        due("seen(3, 1, 1, true)", x.seen(3, 1, 1, true), NONE);
        due("seen(-1, 1, 1, true)", x.seen(-1, 1, 1, true), NONE);
        due("seen(1, 0, 1, true)", x.seen(1, 0, 1, true), NONE);
        due("seen(1, 10, 1, true)", x.seen(1, 10, 1, true), NONE);
        due("seen(1, 1, -1, true)", x.seen(1, 1, -1, true), NONE);
        due("seen(1, 1, 100, true)", x.seen(1, 1, 100, true), NONE);
        says("promise 30");
        due("fits(0, -1): all", x.fits(0, -1), 10);
        says("promise 29");
        due("seen(1, 2, 13, true)", x.seen(1, 2, 13, true), 1);
        says("promise 30");
        // in two weeks twice: fit apart from 7, 2 and 2
        due("fits(0, -1)", x.fits(0, -1), 5);
        due("fits(0, 0)", x.fits(0, 0), 0);
        due("fits(0, 4)", x.fits(0, 4), 4);
        due("fits(0, 5)", x.fits(0, 5), NONE);
        due("fits(0, -2)", x.fits(0, -2), NONE);
        due("fits(1, -1): another one's", x.fits(1, -1), 10);
        due("fits(4, -1)", x.fits(4, -1), NONE);
        due("fits(-1, -1)", x.fits(-1, -1), NONE);
        due("fits(3, -1): all 2 apart from 7 or more", x.fits(3, -1), 7);
        says("promise 29");
        due("seen(1, 1, 8, false): less than 8", x.seen(1, 1, 8, false), 2);
        says("promise 30");
        due("fits(0, -1)", x.fits(0, -1), 1);
        due("fits(0, 0)", x.fits(0, 0), 4);
        due("fits(0, 1)", x.fits(0, 1), NONE);
        x.off(0);
        x.weeks(3);
        due("fits(0, 0): as told", x.fits(0, 0), 4);
        due("seen(0, 1, 0, false): never", x.seen(0, 1, 0, false), 3);
        due("fits(0, -1): nothing", x.fits(0, -1), 0);
        due("fits(0, 0)", x.fits(0, 0), NONE);
        says("promise 31");
        due("ask(0, 1): nothing fits", x.ask(0, 1), NONE);
        says("promise 29");
        for (int k = 4; k <= 10; k++) {
            due("seen", x.seen(0, 9, 99, false), k);
        }
        due("seen: there are ten", x.seen(0, 9, 99, false), NONE);
        due("count(8)", x.count(8), 10);
        due("count(10): no act", x.count(10), 4);
        says("promise 30");
        // behind the throw in the second week the gall is half, and heals
        x = county("sh1;p;pt9b0;lf5", "y:f");
        x.seen(1, 3, 5, true);
        x.seen(1, 3, 6, false);
        due("fits(0, -1): 6 thrown at 12, healed to 5", x.fits(0, -1), 1);
        due("fits(0, 0)", x.fits(0, 0), 6);
    }

    private static void asking() {
        says("promise 31");
        SaddlerKnows x = county("sh3;ps6b2t9;pb7t0;ps0b5t5;lf4;lr1u2f1;lr2u0f2;lr2f9");
        x.seen(1, 2, 13, true);
        due("ask(0, 1): galls 7 .. 11", x.ask(0, 1), 9);
        due("ask(0, 2): galls 14 .. 22", x.ask(0, 2), 17);
        due("ask(0, 0)", x.ask(0, 0), NONE);
        due("ask(0, 10)", x.ask(0, 10), NONE);
        due("ask(4, 1)", x.ask(4, 1), NONE);
        due("ask(-1, 1)", x.ask(-1, 1), NONE);
        x = county("p;pt0;l", "y:f*3");
        due("ask(0, 1): galls 0, 3 .. 27, five below 15", x.ask(0, 1), 13);
        x = county("p;pt0;l", "y:4");
        due("ask(0, 1): alike, 10 apart anyhow", x.ask(0, 1), 0);
        x.seen(0, 1, 1, true);
        due("ask(0, 1): nothing fits", x.ask(0, 1), NONE);
    }

    private static void waitings() {
        says("promise 32");
        SaddlerKnows x = county("ps6t9;ps4t1");
        due("waiting(0, 1, 3, 1, 0): 4 less 1", x.waiting(0, 1, 3, 1, 0), 3);
        due("waiting(0, 1, 3, 1, 1)", x.waiting(0, 1, 3, 1, 1), -1);
        due("waiting(0, 1, 2, 9, 0)", x.waiting(0, 1, 2, 9, 0), -2);
        due("waiting(0, 1, 2, 9, 1): 6 less 2", x.waiting(0, 1, 2, 9, 1), 4);
        due("waiting(0, 1, 7, 7, 0): 4 less 7", x.waiting(0, 1, 7, 7, 0), -3);
        due("waiting(0, 1, 7, 7, 1): 0 less 7", x.waiting(0, 1, 7, 7, 1), -7);
        due("waiting(1, 0, 0, 0, 0)", x.waiting(1, 0, 0, 0, 0), 0);
        due("waiting(1, 0, 0, 0, 1)", x.waiting(1, 0, 0, 0, 1), 4);
        due("waiting(1, 0, 0, 9, 0)", x.waiting(1, 0, 0, 9, 0), 0);
        int[][] not = {{0, 0, 1, 1, 0}, {0, 2, 1, 1, 0}, {-1, 0, 1, 1, 0}, {0, 1, -1, 1, 0}, {0, 1, 10, 1, 0},
            {0, 1, 1, -1, 0}, {0, 1, 1, 10, 0}, {0, 1, 1, 1, 2}, {0, 1, 1, 1, -1}};
        for (int[] n : not) {
            due("waiting: no such", x.waiting(n[0], n[1], n[2], n[3], n[4]), HIDDEN);
        }
    }

    private static void rests() {
        says("promise 33");
        SaddlerKnows x = county("ps6t9;pt0");
        int[] want = {4, 5, 6, 7, 8, 9, 60, 70, 80, 90};
        due("rests(0, 1, -1)", x.rests(0, 1, -1), want.length);
        for (int i = 0; i < want.length; i++) {
            due("rests(0, 1, " + i + ")", x.rests(0, 1, i), want[i]);
        }
        due("rests(0, 1, 10)", x.rests(0, 1, 10), NONE);
        due("rests(0, 1, -2)", x.rests(0, 1, -2), NONE);
        due("rests(0, 0, -1)", x.rests(0, 0, -1), NONE);
        due("rests(0, 2, -1)", x.rests(0, 2, -1), NONE);
        due("rests(-1, 0, -1)", x.rests(-1, 0, -1), NONE);
        x = county("ps0t9;ps0t9");
        due("rests(0, 1, -1): as long as 4 less the weeks is 0 or more", x.rests(0, 1, -1), 5);
        due("rests(0, 1, 0)", x.rests(0, 1, 0), 0);
        due("rests(0, 1, 4)", x.rests(0, 1, 4), 44);
    }

    private static void oddsOfIdleWeeks() {
        says("promise 34");
        SaddlerKnows x = county("sh3;ps6b2t9;pb7t0;ps0b5t5;lf4;lr1u2f1;lr2u0f2;lr2f9");
        // 5 a week to 20, 3 healed by an idle one, 0 at least
        due("odds(2, 4, 50)", x.odds(2, 4, 50), 62500000);
        due("odds(2, 5, 50): the first four, or the last four", x.odds(2, 5, 50), 93750000);
        due("odds(2, 3, 0)", x.odds(2, 3, 0), 0);
        due("odds(2, 4, 0)", x.odds(2, 4, 0), 1000000000);
        due("odds(2, 4, 100)", x.odds(2, 4, 100), 0);
        due("odds(2, 0, 0)", x.odds(2, 0, 0), 0);
        due("odds(2, 7, 0)", x.odds(2, 7, 0), NONE);
        due("odds(2, -1, 0)", x.odds(2, -1, 0), NONE);
        due("odds(2, 1, 101)", x.odds(2, 1, 101), NONE);
        due("odds(2, 1, -1)", x.odds(2, 1, -1), NONE);
        due("odds(3, 1, 1)", x.odds(3, 1, 1), NONE);
        due("odds(-1, 1, 1)", x.odds(-1, 1, 1), NONE);
        x = county("p;pt9;l", "y:30");
        due("odds(1, 1, 33)", x.odds(1, 1, 33), 670000000);
        due("odds(1, 6, 33): all but 0.33 six times, each cut", x.odds(1, 6, 33), 1000000000 - 1291467);
        due("odds(0, 6, 0): he bears none", x.odds(0, 6, 0), 0);
        x = county("p;pt9;l", "y:w=1?12;y:0");
        due("odds(1, 2, 7): only the second week", x.odds(1, 2, 7), 930000000);
        due("odds(1, 1, 7)", x.odds(1, 1, 7), 0);
    }

    private static void sharing() {
        says("promise 35");
        SaddlerKnows x = county("ps0b0;ps0b1t0;ps0b0t0;lr0u1f3;lr1u2f5;lr2u1f1");
        due("shares(1, 999): none", x.shares(1, 999), 0);
        x.off(2);
        x.off(1);
        x.stitch(0, 2);
        x.weeks(1);
        due("shares(1, 999): all of 1", x.shares(1, 999), 999);
        while (x.undo() > 0) {
            due("shares(0, 999)", x.shares(0, 999), 0);
        }
        x.weeks(1);
        due("shares(1, 999): 2 of 7", x.shares(1, 999), 285);
        due("shares(2, 999): 5 of 7", x.shares(2, 999), 713);
        due("shares(0, 999)", x.shares(0, 999), 0);
        due("shares(2, 7)", x.shares(2, 7), 5);
        due("shares(2, 0)", x.shares(2, 0), 0);
        due("shares(2, 1000)", x.shares(2, 1000), NONE);
        due("shares(2, -1)", x.shares(2, -1), NONE);
        due("shares(3, 1)", x.shares(3, 1), NONE);
        due("shares(-1, 1)", x.shares(-1, 1), NONE);
    }

    private static void mosts() {
        says("promise 36");
        SaddlerKnows x = county("ps5b3t1;ps5b8t9;ps2b8t9;ps9b1t0;lr0u1f8;lr1u0f3;lr0u2f9;lr3u2f8");
        // pinches: 1 on 1, 1 on 0, 2 and 3 on 2
        int[] want = {0, 2, 0, 3, 1, 1, 3, 8, 8, 0, 15, 0, 3, 1};
        for (int what = 0; what < want.length; what++) {
            due("most(" + what + ")", x.most(what), want[what]);
        }
        due("most(14)", x.most(14), NONE);
        due("most(-1)", x.most(-1), NONE);
        x.weeks(2);
        due("most(0): GALLED", x.most(0), 2);
        due("most(11): ALL", x.most(11), 14);
        due("most(9): THROWING", x.most(9), 4);
        x.weeks(1);
        due("most(10): SADDLES", x.most(10), 3);
        due("most(7): FREE", x.most(7), 12);
        due("most(8): TOP", x.most(8), 0);
        due("most(6): TIGHTEST, of several the lowest", x.most(6), 0);
        x.off(0);
        due("most(12): IN RINGS", x.most(12), 0);
        due("most(13): SIDES", x.most(13), 0);
        due("most(2): LEADER", x.most(2), 1);
        x.off(1);
        due("most(6): there is none", x.most(6), NONE);
        due("most(7): FREE", x.most(7), 15);
        due("most(8): TOP", x.most(8), 0);
        due("most(2): LEADER of none", x.most(2), 0);
        x = county("p;p;lr1u0", "y:0");
        due("most(6): it pinches nothing", x.most(6), 0);
        x = county("p;p;p;l;lr1u2;lr2u0");
        due("most(12): a ring of three", x.most(12), 7);
        due("most(13)", x.most(13), 0);
    }

    private static void images() {
        says("promise 37");
        SaddlerKnows x = county(THREE);
        due("image()", x.image(), 0);
        x.weeks(2);
        due("image()", x.image(), 2);
        x.weeks(3);
        x.off(2);
        x.give(50);
        tell(x, "y:1", 1);
        x.law(0);
        x.rest(9);
        says("promise 38");
        due("log(0, 0): 1 threw", x.log(1, 0), 2);
        due("back(): the latest image", x.back(), 2);
        due("count(5)", x.count(5), 2);
        due("count(9)", x.count(9), 2);
        due("count(6)", x.count(6), 3);
        due("person(1, 3)", person(x, 1, 3), 6);
        due("rule(1)", x.rule(1), 36);
        due("log(0, 1)", x.log(0, 1), 12);
        due("log(1, 1)", x.log(1, 1), 6);
        due("count(10): none can be undone", x.count(10), 0);
        due("undo()", x.undo(), NONE);
        due("count(4): the law holds on", x.count(4), 0);
        due("count(7)", x.count(7), 9);
        x.weeks(1);
        due("back() again", x.back(), 2);
        due("back() again", x.back(), 2);
        x.give(1);
        due("undo()", x.undo(), 0);
        tell(x, THREE, 0);
        due("back(): of another county", x.back(), NONE);
        x = county("p;p;l", "y:w<40&w>0?0;y:2");
        due("back(): no image", x.back(), NONE);
        x.weeks(40);
        x.image();
        for (int k = 0; k < 40; k++) {
            x.undo();
        }
        x.off(0);
        x.weeks(60);
        x.weeks(60);
        due("log(59, 2)", x.log(59, 2), 0);
        due("back()", x.back(), 40);
        due("count(9)", x.count(9), 40);
        for (int i = 0; i < 40; i++) {
            due("log(" + i + ", 2): as it was", x.log(i, 2), 1);
            due("log(" + i + ", 1): as it was", x.log(i, 1), 2);
        }
    }

    private static void counts() {
        says("promise 39");
        SaddlerKnows x = county(THREE);
        feed(x, "abc");
        x.weeks(2);
        x.off(0);
        x.rest(0);
        x.seen(0, 1, 0, true);
        int[] counts = {3, 3, 0, 3, NONE, 2, 2, 0, 1, 2, 3};
        for (int what = 0; what < counts.length; what++) {
            due("count(" + what + ")", x.count(what), counts[what]);
        }
        due("count(11)", x.count(11), HIDDEN);
        due("count(-1)", x.count(-1), HIDDEN);
        due("count(MIN)", x.count(Integer.MIN_VALUE), HIDDEN);
        x.weeks(60);
        due("count(9): 60 at most", x.count(9), 60);
        due("count(10): 40 at most", x.count(10), 40);
    }
}
