/** Each sentence of the document that names an edge of a text: the edge itself and the nearest one allowed. */
public final class EdgesOfTextsTest extends Calls {
    private static final String[] CLAUSES = {"s", "p", "l"};
    private static final String[] LETTERS = {"hk", "sbt", "ruf"};
    private static final int[][] HIGHEST = {{9, 99}, {9, 9, 9}, {5, 5, 9}};

    /** Eight saddles among four persons, each of another pair. */
    private static final String EIGHT = "p;p;p;p;l;lu2;lu3;lr1u0;lr1u2;lr1u3;lr2u0;lr2u1";

    public static void main(String[] args) {
        tapeIsFull();
        tapeOfBytes();
        tapeIsCut();
        howManyClauses();
        anyOrder();
        lettersOnce();
        digits();
        bounds();
        withoutItems();
        blanks();
        tooEarly();
        saddlesThatCannotBe();
        firstFaultCounts();
        lawClauses();
        lawConditions();
        lawDigits();
        nesting();
        numbersWithin();
        divisions();
        worths();
        sorts();
        fourLaws();
        nextCounty();
        finish("edges of texts");
    }

    // ---- the tape ----

    private static void tapeIsFull() {
        says("2. NONE: more than 240");
        SaddlerKnows x = new SaddlerKnows();
        for (int k = 1; k <= 12; k++) {
            due("feed of twenty", x.feed(-1, -1, -1, -1, -1), 20 * k);
        }
        due("feed of one to 240", x.feed(0, 0, 1, 0, 0), NONE);
        due("count(3): as it was", x.count(3), 240);
        due("feed of none to 240", x.feed(0, 0, 0, 0, 0), 240);
        x.end(220);
        due("feed of twenty to 220", x.feed(-1, -1, -1, -1, -1), 240);
        x.end(221);
        due("feed of twenty to 221", x.feed(-1, -1, -1, -1, -1), NONE);
        due("count(3): none of them came", x.count(3), 221);
        due("feed of nineteen to 221", x.feed(-1, -1, 0x00ffffff, -1, -1), 240);
        x.end(239);
        due("feed of two to 239", x.feed(1 << 24, 0, 0, 0, 1), NONE);
        due("feed of one to 239", x.feed(0, 0, 0, 1 << 16, 0), 240);
        for (int bit = 0; bit < 32; bit++) {
            int[] n = new int[5];
            n[bit % 5] = 1 << bit;
            x.end(240);
            due("feed of the bit " + bit + " to 240", x.feed(n[0], n[1], n[2], n[3], n[4]), NONE);
            x.end(239);
            due("feed of the bit " + bit + " to 239", x.feed(n[0], n[1], n[2], n[3], n[4]), 240);
        }

        says("2. a text as long as the tape");
        x = new SaddlerKnows();
        due("feed", feed(x, "p;p" + " ".repeat(237)), 240);
        due("fault(0)", x.fault(0), NONE);
        due("text(0)", x.text(0), 2);
        due("count(3)", x.count(3), 0);
        feed(x, "p;" + " ".repeat(238));
        due("fault(0) of one that ends too early", x.fault(0), 240);
        x.end(0);
        feed(x, "y:" + "1+".repeat(118) + "1 ");
        due("fault(1)", x.fault(1), NONE);
        x.end(238);
        due("fault(1) of one that ends too early", x.fault(1), 238);
    }

    private static void tapeOfBytes() {
        says("2. of each number the highest first; bytes of 0 are left out");
        SaddlerKnows x = new SaddlerKnows();
        due("feed('p')", x.feed('p' << 24, 0, 0, 0, 0), 1);
        due("feed(';')", x.feed(0, ';' << 8, 0, 0, 0), 2);
        due("feed('pb19')", x.feed(0, 0, 0, 0, 'p' << 24 | 'b' << 16 | '1' << 8 | '9'), 6);
        due("fault(0): 19 is told, not 91", x.fault(0), 5);
        x.end(0);
        x.feed('p' << 24 | ';', 'p' << 16 | 's' << 8, '0' << 24 | '7' << 8, 0, 0);
        due("count(3)", x.count(3), 6);
        due("text(0)", x.text(0), 2);
        due("person(1, 0)", person(x, 1, 0), 7);
        due("feed of bytes above 127", x.feed(0x80ff0080, 0, 0, 0, 0x000000f0), 4);
        due("fault(0)", x.fault(0), 0);
        due("fault(1)", x.fault(1), 0);
    }

    private static void tapeIsCut() {
        says("3. False: n");
        SaddlerKnows x = new SaddlerKnows();
        due("end(0) of none", x.end(0), true);
        due("end(1) of none", x.end(1), false);
        due("end(-1) of none", x.end(-1), false);
        feed(x, "p;p;p");
        due("end(6) of five", x.end(6), false);
        due("end(-1) of five", x.end(-1), false);
        due("count(3)", x.count(3), 5);
        due("end(5) of five", x.end(5), true);
        due("count(3)", x.count(3), 5);
        due("end(4) of five", x.end(4), true);
        due("fault(0)", x.fault(0), 4);
        due("end(5) of four", x.end(5), false);
        due("end(0)", x.end(0), true);
        due("count(3)", x.count(3), 0);
        due("fault(0)", x.fault(0), 0);
    }

    // ---- counties ----

    private static void howManyClauses() {
        says("1. s (its RULES; one at most)");
        faults(0, NONE, "p;p", "s;p;p", "p;s;p", "p;p;s", "p;p;sh1k1");
        faults(0, 2, "s;s", "s;s;p;p", "s;sh1");
        faults(0, 6, "p;s;p;s", "s;p;p;sk1");

        SaddlerKnows x = new SaddlerKnows();
        feed(x, "s;p;p;s");
        due("fault(0)", x.fault(0), 6);
        due("fault(0): a second s, not a third one", x.fault(0), 6);
        due("text(0) of the next one", tell(x, "s;p;p", 0), 2);
        due("text(0) of one more", tell(x, "p;p;s", 0), 2);

        says("1. p (a PERSON; 2 .. 6)");
        faults(0, 1, "p");
        faults(0, 3, "s;p", "l;p");
        faults(0, NONE, "p;p", "p;p;p;p;p", "p;p;p;p;p;p", "p;p;p;p;p;p;s");
        faults(0, 12, "p;p;p;p;p;p;p", "p;p;p;p;p;p;px");
        faults(0, 14, "p;p;p;p;p;p;s;p");
        due("text(0) of six", tell(new SaddlerKnows(), "p;p;p;p;p;p", 0), 6);
        due("text(0) of two", tell(new SaddlerKnows(), "p;p", 0), 2);

        says("1. l (a SADDLE; none to 8)");
        x = county("p;p");
        due("count(1) of none", x.count(1), 0);
        faults(0, NONE, EIGHT, EIGHT + ";s");
        x = county(EIGHT);
        due("count(1) of eight", x.count(1), 8);
        due("saddle(7, 0)", x.saddle(7, 0), 2);
        due("saddle(7, 1)", x.saddle(7, 1), 1);
        faults(0, EIGHT.length() + 1, EIGHT + ";l", EIGHT + ";lr3u0");
        faults(0, EIGHT.length() + 3, EIGHT + ";s;l");
    }

    private static void anyOrder() {
        says("1. in any order");
        SaddlerKnows x = county("lr1u0f2;pb1;lf9;sk3;pb2t1s9");
        due("person(0, 1)", person(x, 0, 1), 1);
        due("person(1, 1)", person(x, 1, 1), 2);
        due("person(1, 2)", person(x, 1, 2), 1);
        due("person(1, 0)", person(x, 1, 0), 9);
        due("rule(1)", x.rule(1), 3);
        says("2. those told first, in their order; the others have none");
        due("saddle(0, 2)", x.saddle(0, 2), 2);
        due("saddle(1, 2)", x.saddle(1, 2), 9);
        for (int at = 2; at < 8; at++) {
            due("saddle(" + at + ", 0)", x.saddle(at, 0), NONE);
        }
    }

    private static void lettersOnce() {
        says("1. a letter, each once at most in a CLAUSE; a letter that was there at it");
        for (int c = 0; c < CLAUSES.length; c++) {
            for (char letter : LETTERS[c].toCharArray()) {
                String again = CLAUSES[c] + letter + "1" + letter;
                faults(0, 3, again, again + "1", again + "2;p;p", again + ";");
                StringBuilder all = new StringBuilder(CLAUSES[c] + letter + "1");
                for (char other : LETTERS[c].toCharArray()) {
                    if (other != letter) {
                        all.append(other).append("2");
                    }
                }
                faults(0, all.length(), all.toString() + letter + "1");
            }
        }
        says("1. a letter may be there again in the next CLAUSE");
        faults(0, NONE, "ps1b1t1;ps1b1t1", "p;p;lr0u1f1;lr1u0f1", "sh1;ps1;ps1");
        says("1. ITEMS of s, of p, of l: another one's letter");
        faults(0, 1, "sb1", "su1", "ph1", "pf1", "lk1", "lb1", "st", "ll", "pp", "ss");
        faults(0, 3, "sh1b1", "ps1f1", "lr1k1");
    }

    private static void digits() {
        says("1. a number (one or two digits)");
        faults(0, 2, "sh", "sh;p;p", "psb1", "lr;p");
        faults(0, 3, "sk x", "ps ;p");
        faults(0, NONE, "sh1;p;p", "sh01;p;p", "sk1;p;p", "sk01;p;p", "sk10;p;p", "ps00;ps09");
        says("1. a third digit itself, whatever stands ahead of it");
        faults(0, 4, "sh001", "sh010;p;p", "sk000", "sk100", "sk999", "ps100", "pt990", "lr000", "lu500", "lf999999");
        faults(0, 6, "sh1k001", "sk1h100", "p;ps123");
    }

    private static void bounds() {
        says("1. a number out of bounds is wrong at its last digit");
        for (int c = 0; c < CLAUSES.length; c++) {
            for (int i = 0; i < LETTERS[c].length(); i++) {
                String item = CLAUSES[c] + LETTERS[c].charAt(i);
                int high = HIGHEST[c][i];
                for (int number = 0; number < 100; number++) {
                    String two = (number < 10 ? "0" : "") + number;
                    // the text goes on as if all were well: with too few persons, so that its length is wrong
                    faults(0, number > high ? 3 : 4, item + two);
                    if (number < 10) {
                        faults(0, number > high ? 2 : 3, item + number);
                    }
                }
            }
        }
    }

    private static void withoutItems() {
        says("1. h (2 without), k (20), s (4), b (4), t (3), r and u (0, 1), f (5)");
        SaddlerKnows x = county("s;p;p;l");
        int[] rules = {2, 20};
        int[] person = {4, 4, 3};
        int[] saddle = {0, 1, 5};
        for (int what = 0; what < 2; what++) {
            due("rule(" + what + ")", x.rule(what), rules[what]);
        }
        for (int what = 0; what < 3; what++) {
            due("person(1, " + what + ")", person(x, 1, what), person[what]);
            due("saddle(0, " + what + ")", x.saddle(0, what), saddle[what]);
        }
        x = county("p;p");
        due("rule(0) with no s", x.rule(0), 2);
        due("rule(1) with no s", x.rule(1), 20);
        says("1. of a clause ahead nothing stays");
        x = county("sh9k9;ps9b9t9;ps1;p;lr1u0f9;lu2");
        due("person(1, 1)", person(x, 1, 1), 4);
        due("person(2, 0)", person(x, 2, 0), 4);
        due("saddle(1, 0)", x.saddle(1, 0), 0);
        due("saddle(1, 2)", x.saddle(1, 2), 5);
        tell(x, "p;p;l", 0);
        due("rule(0) of the next one", x.rule(0), 2);
        due("rule(1) of the next one", x.rule(1), 20);
        due("person(0, 0) of the next one", person(x, 0, 0), 4);
        due("saddle(0, 2) of the next one", x.saddle(0, 2), 5);
    }

    private static void blanks() {
        says("1. Blanks (32) may stand between all signs of both");
        faults(0, NONE, " p;p", "p ;p", "p; p", "p;p ", "  s  h  3  k  99  ;  p  s  1  ;  p  ;  l  r  0  u  1  f  9  ");
        faults(1, NONE, " y:1", "y :1", "y: 1", "y:1 ", "  y  :  !  (  s  >  12  )  ?  [  1  +  b  ]  *  2  ;  y  :  7  ");
        due("the text with blanks", county(" p s 1 ; p b 7 ; l f 6 ").saddle(0, 3), 1);
        due("the law with blanks", county("p;p;l", " y : ! s = 4 ? 3 ; y : 12 ").saddle(0, 3), 12);

        says("1. Blanks not within numbers");
        faults(0, 4, "sh0 1;p;p", "sk1 1;p;p", "ps0 0");
        faults(0, 5, "sk12 3;p;p", "ps01 2");
        faults(1, 4, "y:1 1", "y:1 0;y:2");
        faults(1, 6, "y:[12 3]");

        says("1. Blanks (32): no other sign");
        faults(0, 1, "p\t;p", "p\n;p", "p\u00a0;p", "p\u001f;p", "p!;p");
        faults(1, 2, "y:\t1", "y:\n1", "y:\u00a01");
    }

    private static void tooEarly() {
        says("1. the length, if it ends too early");
        faults(0, 0, "");
        faults(0, 3, "   ");
        faults(0, 4, "p;p;");
        faults(0, 6, "p;p;  ");
        faults(0, 6, "p;p;sh");
        faults(0, 8, "p;p;sh  ");
        faults(1, 0, "");
        faults(1, 1, "y");
        faults(1, 2, "y:");
        faults(1, 4, "y:  ", "y:1;", "y:1+", "y:s=", "y:!(", "y:s*");
        faults(1, 5, "y:s=1", "y:(s>", "y:1; ");
        faults(1, 6, "y:s=1?", "y:s=1&", "y:s=1|", "y:(s=1");
        says("1. the length, with fewer than two PERSONS");
        faults(0, 1, "p", "s", "l");
        faults(0, 2, "p ");
        faults(0, 5, "s;p;l", "p;s;l");
        faults(0, NONE, "p;p", "s;p;p");
    }

    private static void saddlesThatCannotBe() {
        says("1. the length, with a SADDLE of one that is not told");
        faults(0, 9, "p;p;lr2u0", "lr2u0;p;p", "p;p;lr5u1");
        faults(0, NONE, "p;p;lr1u0", "p;p;lr2u0;p", "lr5u0;p;p;p;p;p;p");
        faults(0, 15, "lr5u0;p;p;p;p;p");
        says("1. the length, with a SADDLE on one that is not told");
        faults(0, 9, "p;p;lr0u2", "lr1u5;p;p");
        faults(0, NONE, "p;p;lr0u1", "p;p;lr0u2;p", "lr0u5;p;p;p;p;p;p");
        faults(0, 15, "lr0u5;p;p;p;p;p");
        says("1. the length, with a SADDLE on himself");
        faults(0, 9, "p;p;lr0u0", "p;p;lr1u1", "lr1u1;p;p");
        faults(0, 7, "p;p;lr1", "p;p;lu0");
        faults(0, 11, "p;p;lu0;p;p");
        says("1. the length, with two SADDLES of the same one on the same one");
        faults(0, 7, "p;p;l;l", "l;p;p;l", "l;l;p;p");
        faults(0, 13, "p;p;lf1;l;s;p");
        faults(0, NONE, "p;p;l;lr1u0", "p;p;p;l;lu2", "p;p;p;lu2;lr1u2");
        faults(0, EIGHT.length(), EIGHT.replace("lr2u1", "lr0u1"), EIGHT.replace("lr2u1", "lr2u0"));
    }

    private static void firstFaultCounts() {
        says("1. FAULT: the first byte at which no such TEXT can go on");
        faults(0, 0, "x", ";p;p", "Pp", "1");
        faults(0, 1, "px", "p,p", "p1", "p:p", "s1", "lx");
        faults(0, 2, "p;;p", "p;x", "p;1");
        faults(0, 3, "p;p!", "p;p)", "p;p\u0001");
        faults(0, 4, "p;p;x", "p;p;;");
        faults(0, 7, "p;p;lu0x", "p;p;l;l,");
        faults(0, EIGHT.length() + 1, EIGHT + ";");
        faults(0, EIGHT.length() + 1, EIGHT + ";x");
        SaddlerKnows x = new SaddlerKnows();
        feed(x, "sh10;x");
        due("fault(0) of two", x.fault(0), 3);
        due("fault(0) once more", x.fault(0), 3);
        due("fault(1) of the same tape", x.fault(1), 0);
    }

    // ---- laws ----

    private static void lawClauses() {
        says("1. CLAUSES with ; between, one at least");
        faults(1, 0, "", ";", ";y:1");
        faults(1, NONE, "y:1", "y:1;y:2", "y:1;y:2;y:3");
        faults(1, 4, "y:1;", "y:1;;y:2", "y:1;1");
        says("1. y, : , perhaps CONDITION ?, then SUM");
        faults(1, 0, ":1", "1", "s>1?1");
        faults(1, 1, "y1", "y;", "y?1");
        faults(1, 2, "y:;", "y:?1", "y:;y:1");
        faults(1, NONE, "y:s", "y:s=1?s", "y:(s=1)?s", "y:!s=1?s");
        faults(1, 3, "y:s?1", "y:1?1");
        faults(1, 5, "y:s=1;");
        faults(1, 6, "y:s=1?;", "y:s=1??1", "y:s=1?!s=1?1", "y:s=1?(s)");
        faults(1, 7, "y:s=1?1?1", "y:s=1?1=1", "y:s=1?1&s=1");
        says("1. a letter (s b f t g w)");
        for (char letter = 'a'; letter <= 'z'; letter++) {
            faults(1, "sbftgw".indexOf(letter) >= 0 ? NONE : 2, "y:" + letter);
        }
        faults(1, 2, "y:S", "y:W");
    }

    private static void lawConditions() {
        says("1. A CLAUSE that goes on with ! or ( behind its : has a CONDITION");
        faults(1, 4, "y:!s", "y:(s", "y:!1");
        faults(1, 7, "y:(s=1)", "y:(s=1)+1", "y:(s=1);", "y:(s=1)=1?1");
        faults(1, 6, "y:!s=1", "y:!s=1;", "y:!s=1)");
        faults(1, 4, "y:(s)?1", "y:(s)*2", "y:!s?1");
        faults(1, NONE, "y:(s=1)?1", "y:!s=1?1", "y:!(s=1)?1", "y:(!s=1)?1", "y:!!s=1?1", "y:((s=1))?1");
        says("1. UNIT: SUM, one of = < >, SUM");
        faults(1, NONE, "y:s=1?1", "y:s<1?1", "y:s>1?1", "y:[s+1]*2-1>3/[b]?1");
        faults(1, 4, "y:s==1?1", "y:s<=1?1", "y:s>?1", "y:s>;", "y:s=!s=1?1", "y:s=(1)?1");
        faults(1, 5, "y:s=1=1?1", "y:s=1<2?1", "y:s<b>f?1");
        says("1. TRUTHS with | between, UNITS with & between");
        faults(1, NONE, "y:s=1|b=1?1", "y:s=1&b=1?1", "y:s=1|b=1&f=1|!t=1?1", "y:s=1&(b=1|f=1)?1", "y:s=1&!b=1?1");
        faults(1, 6, "y:s=1||b=1?1", "y:s=1&&b=1?1", "y:s=1|?1", "y:s=1&?1", "y:s=1|)?1");
        faults(1, 7, "y:s=1|b?1", "y:s=1&b|f=1?1", "y:s=1&b");
        faults(1, 3, "y:s|b=1?1", "y:s&b=1?1");
        says("1. ( CONDITION ), [ SUM ]");
        faults(1, 6, "y:(s=1]?1", "y:(s=1?1", "y:(s=1;");
        faults(1, 4, "y:[s)", "y:[s?1", "y:[s=1]?1", "y:[s;", "y:[1,2]");
        faults(1, 3, "y:[]", "y:()?1", "y:[(s=1)]", "y:[!s=1]", "y:s]", "y:s)");
    }

    private static void lawDigits() {
        says("1. a number (1 to 4 digits)");
        faults(1, NONE, "y:0", "y:00", "y:000", "y:0000", "y:9999", "y:[9999]*9999");
        says("1. a fifth digit in a LAW itself");
        faults(1, 6, "y:00000", "y:10000", "y:99999", "y:123456", "y:00009+1");
        faults(1, 8, "y:1+12345", "y:s>99999?1", "y:[[00000");
        due("9999 is told", county("p;p;l", "y:9999-9990").saddle(0, 3), 9);
        due("0012 is told", county("p;p;l", "y:0012").saddle(0, 3), 12);
    }

    private static void nesting() {
        says("1. At most six of ( [ ! within one another");
        faults(1, NONE, "y:[[[[[[s]]]]]]", "y:((((((s=1))))))?1", "y:!!!!!!s=1?1", "y:!(!([[s]]=1))?1");
        faults(1, NONE, "y:!(!(![s]=1))?1", "y:((((([s]=1)))))?1", "y:!!!!![s]=1?1");
        says("1. a seventh of ( [ ! at it");
        faults(1, 8, "y:[[[[[[[s]]]]]]]", "y:(((((((s=1)))))))?1", "y:!!!!!!!s=1?1", "y:!!!!!!(s=1)?1");
        faults(1, 8, "y:((((((!s=1))))))?1", "y:(((((([s]=1))))))?1", "y:!!!!!![s]=1?1", "y:[[[[[[[", "y:((((((!");
        faults(1, 8, "y:!(!(!([s]=1)))?1");
        faults(1, 10, "y:!!!!!!s=[1]?1", "y:!!!!!!1<[s]?1");
        says("1. within one another: beside one another are no deeper");
        faults(1, NONE, "y:[[[[[[s]]]]]]+[[[[[[s]]]]]]*[s]", "y:!!!!!!s=1&!!!!!!s=1|((((((s=1))))))?[[[[[[1]]]]]]");
        faults(1, NONE, "y:!!!s=[[[1]]]&[s]=[1]?[s]");
        faults(1, NONE, "y:s=[[[[[[1]]]]]]?1", "y:s=1&((((((s=1))))))?1", "y:s=1|!!!!!!s=1?1", "y:s=1?[[[[[[1]]]]]]");
        faults(1, 10, "y:s=[[[[[[[1]]]]]]]?1");
        faults(1, 12, "y:s=1&(((((((s=1)))))))?1", "y:s=1|!!!!!!!s=1?1", "y:s=1?[[[[[[[1]]]]]]]");
        faults(1, 12, "y:!!!s=[[[1+[1]]]]?1");
    }

    private static void worth(int want, String law) {
        due("the pinch by " + law, county("ps7;pb5t2;lf3", law).saddle(0, 3), want);
    }

    private static void numbersWithin() {
        says("1. Behind each sign numbers are within -1,000,000 .. 1,000,000");
        worth(5, "y:1000*1000-9999*100-95");
        worth(4, "y:1000*1000-1-9999*100-95");
        worth(5, "y:1000*1000+1-9999*100-95");
        worth(5, "y:1001*1000-9999*100-95");
        worth(5, "y:1000*1000+0-9999*100-95");
        worth(5, "y:999*1001+1-9999*100-95");
        worth(5, "y:999*1001+2-9999*100-95");
        worth(5, "y:0-1000*1000+1000*1000+5");
        worth(4, "y:0-1000*1000+1000*1000-1+5");
        worth(5, "y:0-1000*1000-1+1000*1000+5");
        worth(6, "y:0-999*1001+1000*1000+5");
        worth(5, "y:[0-1001]*1000+1000*1000+5");
        worth(5, "y:[0-1000]*1000+1000*1000+5");
        worth(6, "y:[0-999]*1001+1000*1000+5");
        says("1. nor do they go round");
        worth(5, "y:1000*1000*[1000*1000]-9999*100-95");
        worth(5, "y:[0-1000*1000]*[0-1000*1000]-9999*100-95");
        worth(5, "y:1000*1000*[0-1000*1000]+1000*1000+5");
        worth(5, "y:9999*9999*9999*9999-9999*100-95");
        worth(10, "y:1000*1000*9999/9999-90");
        worth(7, "y:9999*9999=1000*1000?7");
        worth(7, "y:0-9999*9999=0-1000*1000?7");
        worth(0, "y:9999*9999>1000*1000?7");
    }

    private static void divisions() {
        says("1. / cuts towards 0");
        worth(2, "y:5/2");
        worth(2, "y:4/2");
        worth(1, "y:3/2");
        worth(0, "y:1/2");
        worth(8, "y:10+[0-5]/2");
        worth(8, "y:10+5/[0-2]");
        worth(2, "y:[0-5]/[0-2]");
        worth(10, "y:10+[0-1]/2");
        says("1. / by 0 gives 0");
        worth(0, "y:5/0");
        worth(0, "y:0/0");
        worth(9, "y:9+5/0");
        worth(9, "y:9+[0-5]/[b-5]");
        worth(0, "y:5/0*9");
        worth(5, "y:5/1");
    }

    private static void worths() {
        says("1. WORTH: the SUM of the first CLAUSE whose CONDITION holds (or has none)");
        worth(1, "y:s=7?1;y:s=7?2");
        worth(2, "y:s=6?1;y:s=7?2;y:3");
        worth(3, "y:s=6?1;y:s=8?2;y:3");
        worth(1, "y:1;y:s=7?2;y:3");
        worth(0, "y:s=7?0;y:3");
        says("1. WORTH: 0 without");
        worth(0, "y:s=6?1");
        worth(0, "y:s=6?1;y:s=8?2");
        says("1. = < >");
        worth(1, "y:s=7?1");
        worth(0, "y:s<7?1");
        worth(0, "y:s>7?1");
        worth(1, "y:s<8?1");
        worth(1, "y:s>6?1");
        says("1. CONDITION: TRUTHS with |; TRUTH: UNITS with &; UNIT: ! UNIT, ( CONDITION )");
        String[] yes = {"s=7", "s>6", "b<6", "!s=6", "!s>7", "!!f=3", "(t=2)", "!(t<2)"};
        String[] no = {"s=6", "s>7", "b<5", "!s=7", "!s>6", "!!f=4", "(t=3)", "!(t<3)"};
        for (int i = 0; i < yes.length; i++) {
            worth(9, "y:" + yes[i] + "?9");
            worth(0, "y:" + no[i] + "?9");
            for (int j = 0; j < yes.length; j++) {
                worth(9, "y:" + yes[i] + "&" + yes[j] + "?9");
                worth(0, "y:" + yes[i] + "&" + no[j] + "?9");
                worth(0, "y:" + no[i] + "&" + yes[j] + "?9");
                worth(9, "y:" + yes[i] + "|" + no[j] + "?9");
                worth(9, "y:" + no[i] + "|" + yes[j] + "?9");
                worth(0, "y:" + no[i] + "|" + no[j] + "?9");
                worth(9, "y:" + yes[i] + "|" + no[j] + "&" + no[i] + "?9");
                worth(0, "y:(" + yes[i] + "|" + no[j] + ")&" + no[i] + "?9");
                worth(0, "y:!(" + yes[i] + "|" + no[j] + ")?9");
            }
        }
        says("1. SUM: TERMS with + or - between; TERM: ATOMS with * or / between; [ SUM ]");
        worth(10, "y:1+3*3");
        worth(12, "y:[1+3]*3");
        worth(2, "y:9-4-3");
        worth(8, "y:9-[4-3]");
        worth(1, "y:9/3/3");
        worth(9, "y:9/[3/3]");
        worth(6, "y:4/2*3");
        worth(3, "y:7/2");
        worth(9, "y:6*3/2");
        worth(6, "y:6*[3/2]");
        says("2. PINCH held within 0 .. 30");
        worth(30, "y:31");
        worth(30, "y:30");
        worth(29, "y:29");
        worth(30, "y:9999*9999");
        worth(1, "y:1");
        worth(0, "y:0");
        worth(0, "y:0-1");
        worth(0, "y:0-9999*9999");
    }

    // ---- which texts are taken ----

    private static void sorts() {
        says("4. -2: no such sort");
        SaddlerKnows x = new SaddlerKnows();
        due("fault(-1)", x.fault(-1), -2);
        due("fault(2)", x.fault(2), -2);
        due("fault(MIN)", x.fault(Integer.MIN_VALUE), -2);
        due("fault(0)", x.fault(0), 0);
        due("fault(1)", x.fault(1), 0);
        feed(x, "p;p");
        due("fault(2) with nothing wrong", x.fault(2), -2);
        says("4. NONE: none");
        due("fault(0)", x.fault(0), NONE);
        x.end(0);
        feed(x, "y:1");
        due("fault(1)", x.fault(1), NONE);
        due("fault(0)", x.fault(0), 0);
        says("5. NONE: no such sort");
        due("text(2)", x.text(2), NONE);
        due("text(-1)", x.text(-1), NONE);
        due("count(3): the tape stays", x.count(3), 3);
        says("5. NONE: a FAULT");
        due("text(0)", x.text(0), NONE);
        due("count(3): the tape stays", x.count(3), 3);
        due("count(0): no county", x.count(0), 0);
        says("5. The TAPE (empty then)");
        due("text(1)", x.text(1), 0);
        due("count(3)", x.count(3), 0);
        due("text(1) again", x.text(1), NONE);
        due("count(2)", x.count(2), 1);
    }

    private static void fourLaws() {
        says("1. LAWS (4 at most); 5. NONE: there are four LAWS");
        SaddlerKnows x = county("p;p;l");
        for (int law = 0; law < 4; law++) {
            due("law(" + law + ") not there yet", x.law(law), false);
            due("text(1)", tell(x, "y:" + (law + 10), 1), law);
            due("law(" + law + ")", x.law(law), true);
            due("saddle(0, 3)", x.saddle(0, 3), law + 10);
            due("count(2)", x.count(2), law + 1);
        }
        due("text(1) of a fifth one", tell(x, "y:9", 1), NONE);
        due("count(3): the tape stays", x.count(3), 3);
        due("fault(1): it is none", x.fault(1), NONE);
        due("count(2)", x.count(2), 4);
        due("law(4)", x.law(4), false);
        due("count(4): the fourth holds on", x.count(4), 3);
        due("law(0): none was put aside", x.law(0), true);
        due("saddle(0, 3)", x.saddle(0, 3), 10);
        due("text(0): counties are taken still", tell(x, "p;p;p", 0), 3);
        due("text(1) behind another county", tell(x, "y:9", 1), NONE);
        says("9. NONE: none. False: no such one");
        due("law(-2)", x.law(-2), false);
        due("law(-1)", x.law(-1), true);
        due("count(4)", x.count(4), NONE);
        due("law(3)", x.law(3), true);
    }

    private static void nextCounty() {
        says("5. all that was of another one, SEEN, too, is gone but LAWS, which holds, REST, STATUS");
        SaddlerKnows x = county("sh1k50;p;pt0;p;l;lr2u1;lr1u0", "y:4");
        x.rest(7);
        x.give(0);
        x.seen(1, 1, 99, true);
        x.image();
        x.weeks(3);
        x.makes(1, 2, 3);
        due("text(0)", tell(x, "p;p;p;p;l", 0), 4);
        int[] counts = {4, 1, 1, 0, 0, 0, 1, 7, 0, 0, 0};
        for (int what = 0; what < counts.length; what++) {
            due("count(" + what + ")", x.count(what), counts[what]);
        }
        due("rule(0)", x.rule(0), 2);
        due("rule(1)", x.rule(1), 20);
        due("most(11): no gall", x.most(11), 0);
        due("most(10): its own saddles alone", x.most(10), 1);
        due("fits(0, NONE): nothing seen", x.fits(0, NONE), 10);
        due("undo()", x.undo(), NONE);
        due("back()", x.back(), NONE);
        due("log(0, 0)", x.log(0, 0), NONE);
        due("status(1)", x.status(1), 1);
        due("saddle(0, 3): the law holds", x.saddle(0, 3), 4);
        x.seen(0, 1, 0, true);
        x.weeks(1);
        says("5. a county that is refused: all stays");
        due("text(0)", tell(x, "p", 0), NONE);
        due("count(0)", x.count(0), 4);
        due("count(1)", x.count(1), 1);
        due("count(5)", x.count(5), 1);
        due("count(8)", x.count(8), 1);
        due("count(10)", x.count(10), 1);
        due("rule(0)", x.rule(0), 2);
    }
}
